/-! halls that are read are halls -/
theorem rl_ok {B : Nat → Int} {e : Nat} {Ab : Mem} {s : Tp} (ho : HallOK Ab) : HallOK (rlM B e Ab s) := by
  unfold rlM
  by_cases z : (nuT B e 0 2 s).2.2.1 = 0
  · rw [if_pos z]
    have nk := nu_ok z
    obtain ⟨a1, a2, a3, a4, a5, a6, a7, a8, a9⟩ := ho
    exact ⟨a1, a2, a3, a4, by rw [up_eq]; exact nk.2, a6, a7, a8, a9⟩
  · rw [if_neg z]; exact ho
theorem rd_ok {B : Nat → Int} {e : Nat} {Ab : Mem} {s : Tp} (ho : HallOK Ab) : HallOK (rdM B e Ab s) := by
  unfold rdM
  by_cases z : (nuT B e 1 99 s).2.2.1 = 0 ∧ Ab 10 3 < 3
  · rw [if_pos z]
    have nk := nu_ok z.1
    have d2 := (nD_le ho).2
    obtain ⟨a1, a2, a3, a4, a5, a6, a7, a8, a9⟩ := ho
    refine ⟨a1, a2, ?_, a4, a5, a6, fun t ht => ?_, fun d hd => ?_, a9⟩
    · rw [up_eq]; omega
    · have := a7 t ht
      show (0 ≤ Ab 0 t ∧ Ab 0 t < Ab 10 1) ∧ (1 ≤ Ab 1 t ∧ Ab 1 t ≤ 99) ∧ (-1 ≤ Ab 2 t ∧ Ab 2 t < Ab 10 3 + 1) ∧ (0 ≤ Ab 3 t ∧ Ab 3 t ≤ 99)
      omega
    · have hd : d < (up (up Ab 6 (nD Ab) (nuV B e s)) 10 3 (Ab 10 3 + 1) 10 3).toNat := hd
      rw [up_eq] at hd
      rw [up_ne (by omega)]
      by_cases q : d = nD Ab
      · subst q; rw [up_eq]; exact nk.2
      · rw [up_ne (by omega)]; exact a8 d (by omega)
  · rw [if_neg z]; exact ho
theorem pw2 (n : Nat) : (2 : Int) ^ n = ((2 ^ n : Nat) : Int) := by simp
theorem rp_ok {B : Nat → Int} {e : Nat} {Ab : Mem} {s : Tp} (ho : HallOK Ab) : HallOK (rpM B e Ab s) := by
  unfold rpM
  by_cases z : (nuT B e 1 99 (nuT B e 0 3 s)).2.2.1 = 0 ∧ Ab 10 1 < 10
  · rw [if_pos z]
    have n1 := nu_ok z.1
    have n0 := nu_ok n1.1
    have p2 := (nP_le ho).2
    obtain ⟨a1, a2, a3, a4, a5, a6, a7, a8, a9⟩ := ho
    generalize hA : up (up (up Ab 4 (nP Ab) (nuV B e s)) 5 (nP Ab) (nuV B e (nuT B e 0 3 s))) 10 1 (Ab 10 1 + 1) = A
    have f : ∀ u v, ¬ (u = 4 ∧ v = nP Ab) → ¬ (u = 5 ∧ v = nP Ab) → ¬ (u = 10 ∧ v = 1) → A u v = Ab u v := fun u v h1 h2 h3 => by rw [← hA, up_ne h3, up_ne h2, up_ne h1]
    have c1 : A 10 1 = Ab 10 1 + 1 := by rw [← hA]; exact up_eq
    have np : nP A = nP Ab + 1 := by unfold nP; rw [c1]; omega
    have nt : nT A = nT Ab := by unfold nT; rw [f _ _ (by omega) (by omega) (by omega)]
    have nd : nD A = nD Ab := by unfold nD; rw [f _ _ (by omega) (by omega) (by omega)]
    have nm : nM A = nM Ab := by unfold nM; rw [f _ _ (by omega) (by omega) (by omega)]
    refine ⟨by rw [c1]; omega, by rw [f _ _ (by omega) (by omega) (by omega)]; exact a2, by rw [f _ _ (by omega) (by omega) (by omega)]; exact a3, by rw [f _ _ (by omega) (by omega) (by omega)]; exact a4, by rw [f _ _ (by omega) (by omega) (by omega)]; exact a5, fun p hp => ?_, fun t ht => ?_, fun d hd => ?_, fun m hm => ?_⟩
    · rw [np] at hp
      by_cases q : p = nP Ab
      · subst q
        rw [← hA, up_ne (by omega), up_ne (by omega), up_eq, up_ne (by omega), up_eq]
        exact ⟨n0.2, n1.2⟩
      · rw [f _ _ (by omega) (by omega) (by omega), f _ _ (by omega) (by omega) (by omega)]; exact a6 p (by omega)
    · rw [nt] at ht
      have := a7 t ht
      rw [c1, f 0 t (by omega) (by omega) (by omega), f 1 t (by omega) (by omega) (by omega), f 2 t (by omega) (by omega) (by omega), f 3 t (by omega) (by omega) (by omega), f 10 3 (by omega) (by omega) (by omega)]
      omega
    · rw [nd] at hd
      rw [f _ _ (by omega) (by omega) (by omega)]; exact a8 d hd
    · rw [nm] at hm
      have := a9 m hm
      rw [np, f 7 m (by omega) (by omega) (by omega), f 8 m (by omega) (by omega) (by omega), f 9 m (by omega) (by omega) (by omega)]
      rw [pw2] at this ⊢
      have h2 : 2 ^ (nP Ab + 1) = 2 * 2 ^ nP Ab := by rw [Nat.pow_succ]; omega
      omega
  · rw [if_neg z]; exact ho
theorem rt_ok {B : Nat → Int} {e : Nat} {Ab : Mem} {o : Int} {s : Tp} (ho : HallOK Ab) : HallOK (rtM B e Ab o s) := by
  unfold rtM
  by_cases z : (th4 B e Ab o s).2.2.1 = 0 ∧ Ab 10 2 < 14
  · rw [if_pos z]
    have t2 := (nT_le ho).2
    have facts : (0 ≤ nuV B e s ∧ nuV B e s ≤ Ab 10 1 - 1) ∧ (1 ≤ nuV B e (th1 B e Ab s) ∧ nuV B e (th1 B e Ab s) ≤ 99) ∧ (-1 ≤ thD B e Ab o s ∧ thD B e Ab o s < Ab 10 3) ∧ (0 ≤ thS B e Ab o s ∧ thS B e Ab o s ≤ 99) := by
      have z1 := z.1
      have h3 := ho.2.2.1
      unfold th4 at z1
      unfold thD thS
      by_cases q : o = 0
      · rw [if_pos q] at z1
        rw [if_pos q, if_pos q]
        have n1 := nu_ok z1
        have n0 := nu_ok n1.1
        omega
      · rw [if_neg q] at z1
        rw [if_neg q, if_neg q]
        have n3 := nu_ok z1
        have z2 := n3.1
        unfold th3 at z2
        rw [if_neg q] at z2
        have n2 := nu_ok z2
        have n1 := nu_ok n2.1
        have n0 := nu_ok n1.1
        omega
    generalize nuV B e s = v0 at facts
    generalize nuV B e (th1 B e Ab s) = v1 at facts
    generalize thD B e Ab o s = v2 at facts
    generalize thS B e Ab o s = v3 at facts
    obtain ⟨a1, a2, a3, a4, a5, a6, a7, a8, a9⟩ := ho
    generalize hA : up (up (up (up (up Ab 0 (nT Ab) v0) 1 (nT Ab) v1) 2 (nT Ab) v2) 3 (nT Ab) v3) 10 2 (Ab 10 2 + 1) = A
    have f : ∀ u v, ¬ (u ≤ 3 ∧ v = nT Ab) → ¬ (u = 10 ∧ v = 2) → A u v = Ab u v := fun u v h1 h3 => by rw [← hA, up_ne h3, up_ne (by omega), up_ne (by omega), up_ne (by omega), up_ne (by omega)]
    have c1 : A 10 2 = Ab 10 2 + 1 := by rw [← hA]; exact up_eq
    have nt : nT A = nT Ab + 1 := by unfold nT; rw [c1]; omega
    have np : nP A = nP Ab := by unfold nP; rw [f _ _ (by omega) (by omega)]
    have nd : nD A = nD Ab := by unfold nD; rw [f _ _ (by omega) (by omega)]
    have nm : nM A = nM Ab := by unfold nM; rw [f _ _ (by omega) (by omega)]
    refine ⟨by rw [f _ _ (by omega) (by omega)]; exact a1, by rw [c1]; omega, by rw [f _ _ (by omega) (by omega)]; exact a3, by rw [f _ _ (by omega) (by omega)]; exact a4, by rw [f _ _ (by omega) (by omega)]; exact a5, fun p hp => ?_, fun t ht => ?_, fun d hd => ?_, fun m hm => ?_⟩
    · rw [np] at hp
      rw [f _ _ (by omega) (by omega), f _ _ (by omega) (by omega)]; exact a6 p hp
    · rw [nt] at ht
      rw [f 10 1 (by omega) (by omega), f 10 3 (by omega) (by omega)]
      by_cases q : t = nT Ab
      · subst q
        have e0 : A 0 (nT Ab) = v0 := by rw [← hA, up_ne (by omega), up_ne (by omega), up_ne (by omega), up_ne (by omega), up_eq]
        have e1 : A 1 (nT Ab) = v1 := by rw [← hA, up_ne (by omega), up_ne (by omega), up_ne (by omega), up_eq]
        have e2 : A 2 (nT Ab) = v2 := by rw [← hA, up_ne (by omega), up_ne (by omega), up_eq]
        have e3 : A 3 (nT Ab) = v3 := by rw [← hA, up_ne (by omega), up_eq]
        rw [e0, e1, e2, e3]
        omega
      · rw [f 0 t (by omega) (by omega), f 1 t (by omega) (by omega), f 2 t (by omega) (by omega), f 3 t (by omega) (by omega)]
        exact a7 t (by omega)
    · rw [nd] at hd
      rw [f _ _ (by omega) (by omega)]; exact a8 d hd
    · rw [nm] at hm
      rw [np, f 7 m (by omega) (by omega), f 8 m (by omega) (by omega), f 9 m (by omega) (by omega)]
      exact a9 m hm
  · rw [if_neg z]; exact ho
theorem rm_ok {B : Nat → Int} {e : Nat} {Ab : Mem} {s : Tp} (ho : HallOK Ab) : HallOK (rmM B e Ab s) := by
  unfold rmM
  by_cases z : (mo4 B e Ab s).2.2.1 = 0 ∧ Ab 10 4 < 8
  · rw [if_pos z]
    have m2 := (nM_le ho).2
    have n3 := nu_ok (mo4_ok z.1)
    have n2 := nu_ok n3.1
    have n1 := nu_ok n2.1
    have b3 := n3.2
    have b2 := n2.2
    have b1 := n1.2
    unfold allB at b3 b2
    clear n1 n2 n3
    have w3 : (mo4 B e Ab s).2.2.1 = 0 := z.1
    generalize nuV B e s = v0 at b1
    generalize nuV B e (mo1 B e s) = v1 at b2
    generalize nuV B e (mo2 B e Ab s) = v2 at b3
    obtain ⟨a1, a2, a3, a4, a5, a6, a7, a8, a9⟩ := ho
    generalize hA : up (up (up (up Ab 7 (nM Ab) v0) 8 (nM Ab) v1) 9 (nM Ab) v2) 10 4 (Ab 10 4 + 1) = A
    have f : ∀ u v, ¬ (7 ≤ u ∧ u ≤ 9 ∧ v = nM Ab) → ¬ (u = 10 ∧ v = 4) → A u v = Ab u v := fun u v h1 h3 => by rw [← hA, up_ne h3, up_ne (by omega), up_ne (by omega), up_ne (by omega)]
    have c1 : A 10 4 = Ab 10 4 + 1 := by rw [← hA]; exact up_eq
    have nm : nM A = nM Ab + 1 := by unfold nM; rw [c1]; omega
    have np : nP A = nP Ab := by unfold nP; rw [f _ _ (by omega) (by omega)]
    have nd : nD A = nD Ab := by unfold nD; rw [f _ _ (by omega) (by omega)]
    have nt : nT A = nT Ab := by unfold nT; rw [f _ _ (by omega) (by omega)]
    refine ⟨by rw [f _ _ (by omega) (by omega)]; exact a1, by rw [f _ _ (by omega) (by omega)]; exact a2, by rw [f _ _ (by omega) (by omega)]; exact a3, by rw [c1]; omega, by rw [f _ _ (by omega) (by omega)]; exact a5, fun p hp => ?_, fun t ht => ?_, fun d hd => ?_, fun m hm => ?_⟩
    · rw [np] at hp
      rw [f _ _ (by omega) (by omega), f _ _ (by omega) (by omega)]; exact a6 p hp
    · rw [nt] at ht
      rw [f 10 1 (by omega) (by omega), f 10 3 (by omega) (by omega), f 0 t (by omega) (by omega), f 1 t (by omega) (by omega), f 2 t (by omega) (by omega), f 3 t (by omega) (by omega)]
      exact a7 t ht
    · rw [nd] at hd
      rw [f _ _ (by omega) (by omega)]; exact a8 d hd
    · rw [nm] at hm
      rw [np]
      by_cases q : m = nM Ab
      · subst q
        have e0 : A 7 (nM Ab) = v0 := by rw [← hA, up_ne (by omega), up_ne (by omega), up_ne (by omega), up_eq]
        have e1 : A 8 (nM Ab) = v1 := by rw [← hA, up_ne (by omega), up_ne (by omega), up_eq]
        have e2 : A 9 (nM Ab) = v2 := by rw [← hA, up_ne (by omega), up_eq]
        rw [e0, e1, e2, pw2]
        omega
      · rw [f 7 m (by omega) (by omega), f 8 m (by omega) (by omega), f 9 m (by omega) (by omega)]
        exact a9 m (by omega)
  · rw [if_neg z]; exact ho
theorem cl_ok {B : Nat → Int} {e : Nat} {Ab : Mem} {b : Int} {s : Tp} (ho : HallOK Ab) : HallOK (clM B e Ab b s) := by
  unfold clM
  split
  · exact rp_ok ho
  · split
    · exact rt_ok ho
    · split
      · exact rd_ok ho
      · split
        · exact rt_ok ho
        · split
          · exact rm_ok ho
          · split
            · exact rl_ok ho
            · exact ho
theorem ab0_ok : HallOK Ab0 := by
  refine ⟨by decide, by decide, by decide, by decide, by decide, fun p hp => ?_, fun p hp => ?_, fun p hp => ?_, fun p hp => ?_⟩ <;> exact absurd hp (Nat.not_lt_zero p)
theorem pr_ok {B : Nat → Int} {e : Nat} : ∀ {n : Nat} {x : Mem × Tp}, HallOK x.1 → HallOK (prS B e n x).1
  | 0, x, h => h
  | n + 1, x, h => by
    rw [prS]
    split
    · exact pr_ok (cl_ok h)
    · exact h
