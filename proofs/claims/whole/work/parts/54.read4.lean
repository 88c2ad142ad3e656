def mo1 (B : Nat → Int) (e : Nat) (s : Tp) : Tp := nuT B e 0 119 s
def allB (Ab : Mem) : Int := ((2 ^ nP Ab : Nat) : Int) - 1
def mo2 (B : Nat → Int) (e : Nat) (Ab : Mem) (s : Tp) : Tp := nuT B e 0 (allB Ab) (mo1 B e s)
def mo3 (B : Nat → Int) (e : Nat) (Ab : Mem) (s : Tp) : Tp := nuT B e 0 (allB Ab) (mo2 B e Ab s)
def moC (B : Nat → Int) (e : Nat) (Ab : Mem) (s : Tp) : Bool := decide ((mo3 B e Ab s).2.2.1 = 0) && decide ((nuV B e (mo1 B e s)).toNat &&& (nuV B e (mo2 B e Ab s)).toNat ≠ 0)
def mo4 (B : Nat → Int) (e : Nat) (Ab : Mem) (s : Tp) : Tp := if moC B e Ab s = true then reT 2 (mo3 B e Ab s) else mo3 B e Ab s
def rmM (B : Nat → Int) (e : Nat) (Ab : Mem) (s : Tp) : Mem := if (mo4 B e Ab s).2.2.1 = 0 ∧ Ab 10 4 < 8 then up (up (up (up Ab 7 (nM Ab) (nuV B e s)) 8 (nM Ab) (nuV B e (mo1 B e s))) 9 (nM Ab) (nuV B e (mo2 B e Ab s))) 10 4 (Ab 10 4 + 1) else Ab
def G_X6_readMotion : FN := fun as M Q => match as with
  | [.inr (.inl k), .inr (.inl tp)] => ∃ Ab B e s, tp = 1 ∧ PL M k Ab ∧ TSs M B e s ∧ ∀ M', RF k M M' → PL M' k (rmM B e Ab s) → TSs M' B e (mo4 B e Ab s) → Q none M'
  | _ => False
def b_X6_readMotion_0 : List AT := tx_al 1 :: tx_ic 0 :: tx_ic 119 :: tx_callv 9 (nf G_X9_readNumber) 2 :: tx_is 2 :: tx_al 1 :: tx_ic 0 :: tx_al 0 :: tx_callv 6 (nf G_X6_allPersons) 0 :: tx_callv 9 (nf G_X9_readNumber) 2 :: tx_is 3 :: tx_al 1 :: tx_ic 0 :: tx_al 0 :: tx_callv 6 (nf G_X6_allPersons) 0 :: tx_callv 9 (nf G_X9_readNumber) 2 :: tx_is 4 :: tx_al 1 :: tx_callv 9 (nf G_X9_isSound) 0 :: tx_ifz r_eq 48 :: tx_il 3 :: tx_il 4 :: tx_bin andI :: tx_ifz r_eq 48 :: tx_al 1 :: tx_ic 2 :: tx_callv 9 (nf G_X9_refuse) 1 :: tx_fall 48 :: []
def b_X6_readMotion_48 : List AT := tx_al 1 :: tx_callv 9 (nf G_X9_isSound) 0 :: tx_ifz r_eq 105 :: tx_al 0 :: tx_gi 6 10 :: tx_ic 8 :: tx_cmp r_ge 105 :: tx_al 0 :: tx_gr 6 8 :: tx_al 0 :: tx_gi 6 10 :: tx_il 2 :: tx_iax :: tx_al 0 :: tx_gr 6 9 :: tx_al 0 :: tx_gi 6 10 :: tx_il 3 :: tx_iax :: tx_al 0 :: tx_gr 6 10 :: tx_al 0 :: tx_gi 6 10 :: tx_il 4 :: tx_iax :: tx_al 0 :: tx_dup :: tx_gi 6 10 :: tx_ic 1 :: tx_bin f_add :: tx_pi 6 10 :: tx_fall 105 :: []
def b_X6_readMotion_105 : List AT := [tx_rv]
def R_X6_readMotion (J : JT) (Q : QT) : Prop := (∀ ls st M, wpl J Q b_X6_readMotion_0 ls st M → J 0 ls st M) ∧ (∀ ls st M, wpl J Q b_X6_readMotion_48 ls st M → J 48 ls st M) ∧ (∀ ls st M, wpl J Q b_X6_readMotion_105 ls st M → J 105 ls st M)
theorem R_X6_readMotion_0 {J : JT} {Q : QT} (R : R_X6_readMotion J Q) {ls : Ls} {st : St} {M : Mem} (h : wpl J Q b_X6_readMotion_0 ls st M) : J 0 ls st M := R.1 ls st M h
theorem R_X6_readMotion_48 {J : JT} {Q : QT} (R : R_X6_readMotion J Q) {ls : Ls} {st : St} {M : Mem} (h : wpl J Q b_X6_readMotion_48 ls st M) : J 48 ls st M := R.2.1 ls st M h
theorem R_X6_readMotion_105 {J : JT} {Q : QT} (R : R_X6_readMotion J Q) {ls : Ls} {st : St} {M : Mem} (h : wpl J Q b_X6_readMotion_105 ls st M) : J 105 ls st M := R.2.2 ls st M h
theorem mo4_ok {B : Nat → Int} {e : Nat} {Ab : Mem} {s : Tp} (h : (mo4 B e Ab s).2.2.1 = 0) : (mo3 B e Ab s).2.2.1 = 0 := by
  unfold mo4 at h
  by_cases q : moC B e Ab s = true
  · have q2 := q
    unfold moC at q2
    rw [Bool.and_eq_true, decide_eq_true_eq] at q2
    exact q2.1
  · rw [if_neg q] at h; exact h
theorem P_X6_readMotion {J : JT} {Q : QT} (R : R_X6_readMotion J Q) {as : List Vl} {M : Mem} (h : nf G_X6_readMotion as M Q) : (enL as).length ≤ 5 ∧ J 0 (padL 5 (enL as)) [] M := by
  unfold nf G_X6_readMotion at h
  split at h
  · rename_i k tp
    obtain ⟨Ab, B, e, s, rfl, hpl, ts, hQ⟩ := h
    obtain ⟨hk, hp, ho⟩ := hpl
    have k3 := pl_3a hk
    have n10 := ho.1
    have m8 := ho.2.2.2.1
    have pw := p10 (nP_le ho).1
    have pp := Nat.two_pow_pos (nP Ab)
    have ab : 0 ≤ allB Ab ∧ allB Ab < 1024 := by unfold allB; omega
    have at48 : ∀ (M1 : Mem) (r0 r1 r2 : Int), TF M M1 → TSs M1 B e (mo4 B e Ab s) → ((mo4 B e Ab s).2.2.1 = 0 → r0 = nuV B e s ∧ r1 = nuV B e (mo1 B e s) ∧ r2 = nuV B e (mo2 B e Ab s) ∧ (0 ≤ r0 ∧ r0 ≤ 119) ∧ (0 ≤ r1 ∧ r1 ≤ allB Ab) ∧ (0 ≤ r2 ∧ r2 ≤ allB Ab)) → J 48 [some (vR k), some (vR 1), some (vI r0), some (vI r1), some (vI r2)] [] M1 := by
      intro M1 r0 r1 r2 tf1 ts1 hr
      have hp1 : PlanRel M1 k Ab := hp.kept (fun u v q1 q2 => tf1 u v (by omega))
      have e8 : M1 k 10 = Ab 10 4 := hp1.2.2.2.1
      refine R_X6_readMotion_48 R (an o1 (use_snd ts1 (fun z => bf (by decide) (an (pl_ob hk) ?_)) (fun z => bt rfl (R_X6_readMotion_105 R (hQ M1 (RF.tf tf1) ?_ ts1)))))
      · obtain ⟨g0, g1, g2, b0, b1, b2⟩ := hr z
        refine br (fun g => R_X6_readMotion_105 R (hQ M1 (RF.tf tf1) ?_ ts1)) (fun g => an (pl_ob hk) (an (pl_ob hk) (an ?_ (an (pl_ob hk) (an (pl_ob hk) ?_)))))
        · have g : (8 : Int) ≤ M1 k 10 := g
          unfold rmM
          rw [if_neg (by omega)]
          exact ⟨hk, hp1, ho⟩
        · have g : ¬ (8 : Int) ≤ M1 k 10 := g
          show AK 1 (k + 8) (M1 k 10)
          exact ak_of (pl_8 hk) (by omega) (by omega)
        · have g : ¬ (8 : Int) ≤ M1 k 10 := g
          have en : (M1 k 10).toNat = nM Ab := by unfold nM; omega
          have ef : f_add (M1 k 10) 1 = Ab 10 4 + 1 := by rw [e8]; exact w1 (by omega) (by omega) rfl
          generalize hM2 : up M1 (k + 8) (M1 k 10).toNat r0 = M2
          have m2 : M2 k 10 = M1 k 10 := by rw [← hM2, up_ne (by omega)]
          refine an (show AK 1 (k + 9) (M2 k 10) by rw [m2]; exact ak_of (pl_9 hk) (by omega) (by omega)) (an (pl_ob hk) (an (pl_ob hk) ?_))
          rw [m2]
          generalize hM3 : up M2 (k + 9) (M1 k 10).toNat r1 = M3
          have m3 : M3 k 10 = M1 k 10 := by rw [← hM3, up_ne (by omega)]; exact m2
          refine an (show AK 1 (k + 10) (M3 k 10) by rw [m3]; exact ak_of (pl_10 hk) (by omega) (by omega)) (an (pl_ob hk) (an (pl_ob hk) ?_))
          rw [m3]
          generalize hM5 : up M3 (k + 10) (M1 k 10).toNat r2 = M5
          have m5 : M5 k 10 = M1 k 10 := by rw [← hM5, up_ne (by omega)]; exact m3
          rw [m5, ef]
          clear ef
          rw [en] at hM2 hM3 hM5
          have o3 : ∀ u v, ¬ (k + 8 ≤ u ∧ u ≤ k + 10 ∧ v = nM Ab) → M5 u v = M1 u v := fun u v q1 => by rw [← hM5, up_ne (by omega), ← hM3, up_ne (by omega), ← hM2, up_ne (by omega)]
          have v8 : M5 (k + 8) (nM Ab) = r0 := by rw [← hM5, up_ne (by omega), ← hM3, up_ne (by omega), ← hM2, up_eq]
          have v9 : M5 (k + 9) (nM Ab) = r1 := by rw [← hM5, up_ne (by omega), ← hM3, up_eq]
          have v10 : M5 (k + 10) (nM Ab) = r2 := by rw [← hM5, up_eq]
          refine R_X6_readMotion_105 R (hQ _ (fun u v q1 q2 => by rw [up_ne (by omega), o3 _ _ (by omega)]; exact tf1 u v q2) ?_ (ts1.kept (fun u v hu => by rw [up_ne (by omega), o3 _ _ (by omega)])))
          unfold rmM
          rw [if_pos ⟨z, by omega⟩, ← g0, ← g1, ← g2]
          generalize hA : up (up (up (up Ab 7 (nM Ab) r0) 8 (nM Ab) r1) 9 (nM Ab) r2) 10 4 (Ab 10 4 + 1) = Ab2
          have oA : ∀ u v, ¬ (7 ≤ u ∧ u ≤ 9 ∧ v = nM Ab) → ¬ (u = 10 ∧ v = 4) → Ab2 u v = Ab u v := fun u v q1 q2 => by rw [← hA, up_ne (by omega), up_ne (by omega), up_ne (by omega), up_ne (by omega)]
          have A7 : Ab2 7 (nM Ab) = r0 := by rw [← hA, up_ne (by omega), up_ne (by omega), up_ne (by omega), up_eq]
          have A8 : Ab2 8 (nM Ab) = r1 := by rw [← hA, up_ne (by omega), up_ne (by omega), up_eq]
          have A9 : Ab2 9 (nM Ab) = r2 := by rw [← hA, up_ne (by omega), up_eq]
          have A10 : Ab2 10 4 = Ab 10 4 + 1 := by rw [← hA, up_eq]
          have enM : nM Ab2 = nM Ab + 1 := by unfold nM; rw [A10]; omega
          have c10 : ∀ v, v ≠ 4 → Ab2 10 v = Ab 10 v := fun v hv => oA _ _ (by omega) (by omega)
          have cX : ∀ u v, u ≤ 6 → Ab2 u v = Ab u v := fun u v h1 => oA _ _ (by omega) (by omega)
          have eP : nP Ab2 = nP Ab := by unfold nP; rw [c10 1 (by decide)]
          have eT : nT Ab2 = nT Ab := by unfold nT; rw [c10 2 (by decide)]
          have eD : nD Ab2 = nD Ab := by unfold nD; rw [c10 3 (by decide)]
          refine ⟨hk, ⟨?_, ?_, ?_, ?_, ?_, fun p hp2 => ?_, fun p hp2 => ?_, fun p hp2 => ?_, fun p hp2 => ?_⟩, ?_⟩
          · rw [up_ne (by omega), o3 _ _ (by omega), c10 1 (by decide)]; exact hp1.1
          · rw [up_ne (by omega), o3 _ _ (by omega), c10 2 (by decide)]; exact hp1.2.1
          · rw [up_ne (by omega), o3 _ _ (by omega), c10 3 (by decide)]; exact hp1.2.2.1
          · rw [up_eq, A10]
          · rw [up_ne (by omega), o3 _ _ (by omega), c10 0 (by decide)]; exact hp1.2.2.2.2.1
          · rw [eP] at hp2
            rw [up_ne (by omega), up_ne (by omega), o3 _ _ (by omega), o3 _ _ (by omega), cX 4 _ (by decide), cX 5 _ (by decide)]; exact hp1.2.2.2.2.2.1 p hp2
          · rw [eT] at hp2
            rw [up_ne (by omega), up_ne (by omega), up_ne (by omega), up_ne (by omega), o3 _ _ (by omega), o3 _ _ (by omega), o3 _ _ (by omega), o3 _ _ (by omega), cX 0 _ (by decide), cX 1 _ (by decide), cX 2 _ (by decide), cX 3 _ (by decide)]; exact hp1.2.2.2.2.2.2.1 p hp2
          · rw [eD] at hp2
            rw [up_ne (by omega), o3 _ _ (by omega), cX 6 _ (by decide)]; exact hp1.2.2.2.2.2.2.2.1 p hp2
          · rw [enM] at hp2
            rw [up_ne (by omega), up_ne (by omega), up_ne (by omega)]
            by_cases q : p = nM Ab
            · subst q; rw [v8, v9, v10, A7, A8, A9]; exact ⟨rfl, rfl, rfl⟩
            · rw [o3 _ _ (by omega), o3 _ _ (by omega), o3 _ _ (by omega), oA 7 _ (by omega) (by omega), oA 8 _ (by omega) (by omega), oA 9 _ (by omega) (by omega)]; exact hp1.2.2.2.2.2.2.2.2 p (by omega)
          · obtain ⟨a1, a2, a3', a4, a5, a6, a7, a8, a9⟩ := ho
            refine ⟨?_, ?_, ?_, ?_, ?_, fun p hp2 => ?_, fun t ht => ?_, fun d hd => ?_, fun m hm => ?_⟩
            · rw [c10 1 (by decide)]; exact a1
            · rw [c10 2 (by decide)]; exact a2
            · rw [c10 3 (by decide)]; exact a3'
            · rw [A10]; omega
            · rw [c10 0 (by decide)]; exact a5
            · rw [eP] at hp2
              rw [cX 4 _ (by decide), cX 5 _ (by decide)]; exact a6 p hp2
            · rw [eT] at ht
              rw [c10 1 (by decide), c10 3 (by decide), cX 0 _ (by decide), cX 1 _ (by decide), cX 2 _ (by decide), cX 3 _ (by decide)]; exact a7 t ht
            · rw [eD] at hd
              rw [cX 6 _ (by decide)]; exact a8 d hd
            · rw [enM] at hm
              rw [eP]
              by_cases q : m = nM Ab
              · subst q
                rw [A7, A8, A9]
                have e2 : ((2 ^ nP Ab : Nat) : Int) = (2 : Int) ^ nP Ab := by simp
                unfold allB at b1 b2
                rw [e2] at b1 b2
                exact ⟨b0, ⟨b1.1, by omega⟩, ⟨b2.1, by omega⟩⟩
              · rw [oA 7 _ (by omega) (by omega), oA 8 _ (by omega) (by omega), oA 9 _ (by omega) (by omega)]; exact a9 m (by omega)
      · unfold rmM
        rw [if_neg (fun y => z y.1)]
        exact ⟨hk, hp1, ho⟩
    have eall : ∀ M' : Mem, TF M M' → M' k 0 = Ab 10 1 := fun M' tf => by rw [tf _ _ (by omega)]; exact hp.1
    refine ⟨Nat.le_of_ble_eq_true rfl, R_X6_readMotion_0 R (an o1 (use_num (by decide) ts (fun M1 r0 tf1 ts1 hr0 => an (pl_ob hk) (an ⟨hk, by rw [eall M1 tf1]; omega, by rw [eall M1 tf1]; omega⟩ ?_))))⟩
    rw [eall M1 tf1]
    refine an o1 (use_num (hi := allB Ab) (by omega) ts1 (fun M2 r1 tf2 ts2 hr1 => an (pl_ob hk) (an ⟨hk, by rw [eall M2 (tf1.tr tf2)]; omega, by rw [eall M2 (tf1.tr tf2)]; omega⟩ ?_)))
    rw [eall M2 (tf1.tr tf2)]
    refine an o1 (use_num (hi := allB Ab) (by omega) ts2 (fun M3 r2 tf3 ts3 hr2 => an o1 (use_snd ts3 (fun z => bf (by decide) ?_) (fun z => bt rfl (at48 M3 r0 r1 r2 (tf1.tr (tf2.tr tf3)) ?_ (fun y => absurd (mo4_ok y) z))))))
    · have z : (mo3 B e Ab s).2.2.1 = 0 := z
      have n3 := nu_ok z
      have n2 := nu_ok n3.1
      have n1 := nu_ok n2.1
      have x0 : r0 = nuV B e s := hr0 n2.1
      have x1 : r1 = nuV B e (mo1 B e s) := hr1 n3.1
      have x2 : r2 = nuV B e (mo2 B e Ab s) := hr2 z
      have y0 : 0 ≤ nuV B e s ∧ nuV B e s ≤ 119 := n1.2
      have y1 : 0 ≤ nuV B e (mo1 B e s) ∧ nuV B e (mo1 B e s) ≤ allB Ab := n2.2
      have y2 : 0 ≤ nuV B e (mo2 B e Ab s) ∧ nuV B e (mo2 B e Ab s) ≤ allB Ab := n3.2
      have ea : Unit → andI r1 r2 = (((nuV B e (mo1 B e s)).toNat &&& (nuV B e (mo2 B e Ab s)).toNat : Nat) : Int) := fun _ => by
        rw [x1, x2]
        have := andI_n (a := (nuV B e (mo1 B e s)).toNat) (b := (nuV B e (mo2 B e Ab s)).toNat) (by omega)
        rw [Int.toNat_of_nonneg y1.1, Int.toNat_of_nonneg y2.1] at this
        exact this
      refine br (fun g => at48 M3 r0 r1 r2 (tf1.tr (tf2.tr tf3)) ?_ (fun _ => ⟨x0, x1, x2, by rw [x0]; exact y0, by rw [x1]; exact y1, by rw [x2]; exact y2⟩)) (fun g => an o1 (use_ref ts3 (fun M4 tf4 ts4 => at48 M4 r0 r1 r2 (tf1.tr (tf2.tr (tf3.tr tf4))) ?_ (fun y => absurd y ?_))))
      · have g : andI r1 r2 = 0 := g
        rw [ea ()] at g
        unfold mo4
        rw [if_neg (fun c => ?_)]
        · exact ts3
        · unfold moC at c
          rw [Bool.and_eq_true, decide_eq_true_eq, decide_eq_true_eq] at c
          exact c.2 (by omega)
      · have g : ¬ andI r1 r2 = 0 := g
        rw [ea ()] at g
        have c : moC B e Ab s = true := by
          unfold moC
          rw [Bool.and_eq_true, decide_eq_true_eq, decide_eq_true_eq]
          exact ⟨z, by omega⟩
        unfold mo4
        rw [if_pos c]
        exact ts4
      · have g : ¬ andI r1 r2 = 0 := g
        rw [ea ()] at g
        have c : moC B e Ab s = true := by
          unfold moC
          rw [Bool.and_eq_true, decide_eq_true_eq, decide_eq_true_eq]
          exact ⟨z, by omega⟩
        unfold mo4
        rw [if_pos c]
        show ¬ rfK (mo3 B e Ab s).2.2.1 2 = 0
        unfold rfK
        rw [if_pos z]
        decide
    · have z : ¬ (mo3 B e Ab s).2.2.1 = 0 := z
      unfold mo4
      rw [if_neg (fun c => ?_)]
      · exact ts3
      · unfold moC at c
        rw [Bool.and_eq_true, decide_eq_true_eq] at c
        exact z c.1

  · exact h.elim