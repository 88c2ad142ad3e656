/-! Loans: to read a lending -/
def LF (k : Nat) (M M' : Mem) : Prop := ∀ u v, ¬ (k ≤ u ∧ u ≤ k + 4) → ¬ (u = 1 ∧ 3 ≤ v ∧ v ≤ 6) → M' u v = M u v
def lo1 (B : Nat → Int) (e : Nat) (Ab : Mem) (s : Tp) : Tp := nuT B e 0 (Ab 10 2 - 1) s
def lo2 (B : Nat → Int) (e : Nat) (Ab : Mem) (s : Tp) : Tp := nuT B e 0 (Ab 10 1 - 1) (lo1 B e Ab s)
def loC (B : Nat → Int) (e : Nat) (Ab : Mem) (s : Tp) : Bool := decide ((lo2 B e Ab s).2.2.1 = 0) && decide (Ab 0 (nuV B e s).toNat = nuV B e (lo1 B e Ab s))
def lo3 (B : Nat → Int) (e : Nat) (Ab : Mem) (s : Tp) : Tp := if loC B e Ab s = true then reT 2 (lo2 B e Ab s) else lo2 B e Ab s
def lo4 (B : Nat → Int) (e : Nat) (Ab : Mem) (s : Tp) : Tp := nuT B e 0 119 (lo3 B e Ab s)
def lo5 (B : Nat → Int) (e : Nat) (Ab : Mem) (s : Tp) : Tp := nuT B e (nuV B e (lo3 B e Ab s) + 1) 120 (lo4 B e Ab s)
def rloM (B : Nat → Int) (e : Nat) (Ab : Mem) (s : Tp) : Mem := if (lo5 B e Ab s).2.2.1 = 0 ∧ Ab 10 5 < 20 then up (up (up (up (up Ab 11 (nL Ab) (nuV B e s)) 12 (nL Ab) (nuV B e (lo1 B e Ab s))) 13 (nL Ab) (nuV B e (lo3 B e Ab s))) 14 (nL Ab) (nuV B e (lo4 B e Ab s))) 10 5 (Ab 10 5 + 1) else Ab
def LoSt (M : Mem) (k pl : Nat) (Ab : Mem) : Prop := ((k = 25 ∨ k = 30) ∧ (pl = 3 ∨ pl = 14)) ∧ PL M pl Ab ∧ LoanRel M k Ab 11 (Ab 10 5) ∧ LoanOK Ab 11 (Ab 10 5)
def G_X5_readLoan : FN := fun as M Q => match as with
  | [.inr (.inl k), .inr (.inl tp), .inr (.inl pl)] => ∃ Ab B e s, tp = 1 ∧ LoSt M k pl Ab ∧ TSs M B e s ∧ ∀ M', LF k M M' → LoSt M' k pl (rloM B e Ab s) → TSs M' B e (lo5 B e Ab s) → Q none M'
  | _ => False
def b_X5_readLoan_0 : List AT := tx_al 1 :: tx_ic 0 :: tx_al 2 :: tx_gi 6 3 :: tx_ic 1 :: tx_bin f_sub :: tx_callv 9 (nf G_X9_readNumber) 2 :: tx_is 3 :: tx_al 1 :: tx_ic 0 :: tx_al 2 :: tx_gi 6 0 :: tx_ic 1 :: tx_bin f_sub :: tx_callv 9 (nf G_X9_readNumber) 2 :: tx_is 4 :: tx_al 1 :: tx_callv 9 (nf G_X9_isSound) 0 :: tx_ifz r_eq 56 :: tx_al 2 :: tx_il 3 :: tx_callv 6 (nf G_X6_hasThing) 1 :: tx_ifz r_eq 56 :: tx_al 2 :: tx_gr 6 3 :: tx_il 3 :: tx_ia :: tx_il 4 :: tx_cmp r_ne 56 :: tx_al 1 :: tx_ic 2 :: tx_callv 9 (nf G_X9_refuse) 1 :: tx_fall 56 :: []
def b_X5_readLoan_56 : List AT := tx_al 1 :: tx_ic 0 :: tx_ic 119 :: tx_callv 9 (nf G_X9_readNumber) 2 :: tx_is 5 :: tx_al 1 :: tx_il 5 :: tx_ic 1 :: tx_bin f_add :: tx_ic 120 :: tx_callv 9 (nf G_X9_readNumber) 2 :: tx_is 6 :: tx_al 1 :: tx_callv 9 (nf G_X9_isSound) 0 :: tx_ifz r_eq 146 :: tx_al 0 :: tx_gi 5 0 :: tx_ic 20 :: tx_cmp r_ge 146 :: tx_al 0 :: tx_gr 5 1 :: tx_al 0 :: tx_gi 5 0 :: tx_il 3 :: tx_iax :: tx_al 0 :: tx_gr 5 2 :: tx_al 0 :: tx_gi 5 0 :: tx_il 4 :: tx_iax :: tx_al 0 :: tx_gr 5 3 :: tx_al 0 :: tx_gi 5 0 :: tx_il 5 :: tx_iax :: tx_al 0 :: tx_gr 5 4 :: tx_al 0 :: tx_gi 5 0 :: tx_il 6 :: tx_iax :: tx_al 0 :: tx_dup :: tx_gi 5 0 :: tx_ic 1 :: tx_bin f_add :: tx_pi 5 0 :: tx_fall 146 :: []
def b_X5_readLoan_146 : List AT := [tx_rv]
def R_X5_readLoan (J : JT) (Q : QT) : Prop := (∀ ls st M, wpl J Q b_X5_readLoan_0 ls st M → J 0 ls st M) ∧ (∀ ls st M, wpl J Q b_X5_readLoan_56 ls st M → J 56 ls st M) ∧ (∀ ls st M, wpl J Q b_X5_readLoan_146 ls st M → J 146 ls st M)
theorem R_X5_readLoan_0 {J : JT} {Q : QT} (R : R_X5_readLoan J Q) {ls : Ls} {st : St} {M : Mem} (h : wpl J Q b_X5_readLoan_0 ls st M) : J 0 ls st M := R.1 ls st M h
theorem R_X5_readLoan_56 {J : JT} {Q : QT} (R : R_X5_readLoan J Q) {ls : Ls} {st : St} {M : Mem} (h : wpl J Q b_X5_readLoan_56 ls st M) : J 56 ls st M := R.2.1 ls st M h
theorem R_X5_readLoan_146 {J : JT} {Q : QT} (R : R_X5_readLoan J Q) {ls : Ls} {st : St} {M : Mem} (h : wpl J Q b_X5_readLoan_146 ls st M) : J 146 ls st M := R.2.2 ls st M h
theorem LoSt.tf {M M' : Mem} {k pl : Nat} {Ab : Mem} (h : LoSt M k pl Ab) (tf : TF M M') : LoSt M' k pl Ab := ⟨h.1, h.2.1.tf tf, h.2.2.1.kept (fun u v q1 q2 => tf u v (by have := h.1; omega)), h.2.2.2⟩
theorem nu_any {B : Nat → Int} {e : Nat} {s : Tp} {lo hi lo' hi' : Int} (h : ¬ s.2.2.1 = 0) : nuT B e lo hi s = nuT B e lo' hi' s := by unfold nuT; rw [if_neg h, if_neg h]
theorem lo3_ok {B : Nat → Int} {e : Nat} {Ab : Mem} {s : Tp} (h : (lo3 B e Ab s).2.2.1 = 0) : (lo2 B e Ab s).2.2.1 = 0 ∧ ¬ Ab 0 (nuV B e s).toNat = nuV B e (lo1 B e Ab s) := by
  unfold lo3 at h
  by_cases q : loC B e Ab s = true
  · rw [if_pos q] at h
    unfold loC at q
    rw [Bool.and_eq_true, decide_eq_true_eq] at q
    have h : rfK (lo2 B e Ab s).2.2.1 2 = 0 := h
    unfold rfK at h
    rw [if_pos q.1] at h
    exact absurd h (by decide)
  · rw [if_neg q] at h
    refine ⟨h, fun z => q ?_⟩
    unfold loC
    rw [Bool.and_eq_true, decide_eq_true_eq, decide_eq_true_eq]
    exact ⟨h, z⟩
theorem PL.ab {M : Mem} {k : Nat} {Ab Ab2 : Mem} (h : PL M k Ab) (h1 : ∀ u v, u ≤ 9 → Ab2 u v = Ab u v) (h2 : ∀ v, v ≤ 4 → Ab2 10 v = Ab 10 v) : PL M k Ab2 := by
  obtain ⟨hk, hp, ho⟩ := h
  have eP : nP Ab2 = nP Ab := by unfold nP; rw [h2 1 (by decide)]
  have eT : nT Ab2 = nT Ab := by unfold nT; rw [h2 2 (by decide)]
  have eD : nD Ab2 = nD Ab := by unfold nD; rw [h2 3 (by decide)]
  have eM : nM Ab2 = nM Ab := by unfold nM; rw [h2 4 (by decide)]
  have f : ∀ u, u ≤ 9 → Ab2 u = Ab u := fun u hu => funext (fun v => h1 u v hu)
  refine ⟨hk, ?_, ?_⟩
  · unfold PlanRel
    rw [eP, eT, eD, eM, h2 0 (by decide), h2 1 (by decide), h2 2 (by decide), h2 3 (by decide), h2 4 (by decide), f 0 (by decide), f 1 (by decide), f 2 (by decide), f 3 (by decide), f 4 (by decide), f 5 (by decide), f 6 (by decide), f 7 (by decide), f 8 (by decide), f 9 (by decide)]
    exact hp
  · unfold HallOK
    rw [eP, eT, eD, eM, h2 0 (by decide), h2 1 (by decide), h2 2 (by decide), h2 3 (by decide), h2 4 (by decide), f 0 (by decide), f 1 (by decide), f 2 (by decide), f 3 (by decide), f 4 (by decide), f 5 (by decide), f 6 (by decide), f 7 (by decide), f 8 (by decide), f 9 (by decide)]
    exact ho
theorem P_X5_readLoan {J : JT} {Q : QT} (R : R_X5_readLoan J Q) {as : List Vl} {M : Mem} (h : nf G_X5_readLoan as M Q) : (enL as).length ≤ 7 ∧ J 0 (padL 7 (enL as)) [] M := by
  unfold nf G_X5_readLoan at h
  split at h
  · rename_i k tp pl
    obtain ⟨Ab, B, e, s, rfl, hst, ts, hQ⟩ := h
    obtain ⟨kk, hpl, hlr, hlo⟩ := hst
    obtain ⟨hk, hp, ho⟩ := hpl
    have hlk : LoanAt k := by rcases kk.1 with rfl | rfl <;> simp [LoanAt]
    have n10 := ho.1
    have t14 := ho.2.1
    have l20 := hlo.1
    have at56 : ∀ (M1 : Mem) (r0 r1 : Int) (z5 z6 : Option Vl), TF M M1 → TSs M1 B e (lo3 B e Ab s) → ((lo3 B e Ab s).2.2.1 = 0 → r0 = nuV B e s ∧ r1 = nuV B e (lo1 B e Ab s) ∧ (0 ≤ r0 ∧ r0 < Ab 10 2) ∧ (0 ≤ r1 ∧ r1 < Ab 10 1) ∧ r1 ≠ Ab 0 r0.toNat) → J 56 [some (vR k), some (vR 1), some (vR pl), some (vI r0), some (vI r1), z5, z6] [] M1 := by
      intro M1 r0 r1 z5 z6 tf1 ts1 hr
      refine R_X5_readLoan_56 R (an o1 (use_num (by decide) ts1 (fun M2 r2 tf2 ts2 hr2 => an o1 (use_num (by decide) ts2 (fun M3 r3 tf3 ts3 hr3 => ?_)))))
      have tfa : TF M M3 := tf1.tr (tf2.tr tf3)
      have e5 : nuT B e (f_add r2 1) 120 (lo4 B e Ab s) = lo5 B e Ab s := by
        by_cases q : (lo4 B e Ab s).2.2.1 = 0
        · have x2 := hr2 q
          have y2 := (nu_ok q).2
          have ef : f_add r2 1 = r2 + 1 := w1 (by omega) (by omega) rfl
          rw [ef, x2]
          rfl
        · exact nu_any q
      have ts4 : TSs M3 B e (lo5 B e Ab s) := by rw [← e5]; exact ts3
      have hr4 : (lo5 B e Ab s).2.2.1 = 0 → r3 = nuV B e (lo4 B e Ab s) := fun z => hr3 (by rw [← e5] at z; exact z)
      clear e5 hr3 ts3
      have st3 : LoSt M3 k pl Ab := LoSt.tf ⟨kk, ⟨hk, hp, ho⟩, hlr, hlo⟩ tfa
      refine an o1 (use_snd ts4 (fun z => bf (by decide) (an (lo_ob hlk) ?_)) (fun z => bt rfl (R_X5_readLoan_146 R (hQ M3 (fun u v _ q => tfa u v q) ?_ ts4))))
      · have n5 := nu_ok z
        have n4 := nu_ok n5.1
        obtain ⟨g0, g1, b0, b1, b2⟩ := hr n4.1
        have g2 : r2 = nuV B e (lo3 B e Ab s) := hr2 n5.1
        have g3 := hr4 z
        have b4 : 0 ≤ r2 ∧ r2 ≤ 119 := by rw [g2]; exact n4.2
        have b5 : r2 + 1 ≤ r3 ∧ r3 ≤ 120 := by rw [g2, g3]; exact n5.2
        have lr3 := st3.2.2.1
        have e8 : M3 k 0 = Ab 10 5 := lr3.1
        refine br (fun g => R_X5_readLoan_146 R (hQ M3 (fun u v _ q => tfa u v q) ?_ ts4)) (fun g => an (lo_ob hlk) (an (lo_ob hlk) (an ?_ (an (lo_ob hlk) (an (lo_ob hlk) ?_)))))
        · have g : (20 : Int) ≤ M3 k 0 := g
          unfold rloM
          rw [if_neg (by omega)]
          exact st3
        · have g : ¬ (20 : Int) ≤ M3 k 0 := g
          show AK 1 (k + 1) (M3 k 0)
          exact ak_of (lo_n hlk (by decide) (by decide)) (by omega) (by omega)
        · have g : ¬ (20 : Int) ≤ M3 k 0 := g
          have en : (M3 k 0).toNat = nL Ab := by unfold nL; omega
          have ef : f_add (M3 k 0) 1 = Ab 10 5 + 1 := by rw [e8]; exact w1 (by omega) (by omega) rfl
          generalize hN1 : up M3 (k + 1) (M3 k 0).toNat r0 = N1
          have m1 : N1 k 0 = M3 k 0 := by rw [← hN1, up_ne (by omega)]
          refine an (show AK 1 (k + 2) (N1 k 0) by rw [m1]; exact ak_of (lo_n hlk (by decide) (by decide)) (by omega) (by omega)) (an (lo_ob hlk) (an (lo_ob hlk) ?_))
          rw [m1]
          generalize hN2 : up N1 (k + 2) (M3 k 0).toNat r1 = N2
          have m2 : N2 k 0 = M3 k 0 := by rw [← hN2, up_ne (by omega)]; exact m1
          refine an (show AK 1 (k + 3) (N2 k 0) by rw [m2]; exact ak_of (lo_n hlk (by decide) (by decide)) (by omega) (by omega)) (an (lo_ob hlk) (an (lo_ob hlk) ?_))
          rw [m2]
          generalize hN3 : up N2 (k + 3) (M3 k 0).toNat r2 = N3
          have m3 : N3 k 0 = M3 k 0 := by rw [← hN3, up_ne (by omega)]; exact m2
          refine an (show AK 1 (k + 4) (N3 k 0) by rw [m3]; exact ak_of (lo_n hlk (by decide) (by decide)) (by omega) (by omega)) (an (lo_ob hlk) (an (lo_ob hlk) ?_))
          rw [m3]
          generalize hN4 : up N3 (k + 4) (M3 k 0).toNat r3 = N4
          have m4 : N4 k 0 = M3 k 0 := by rw [← hN4, up_ne (by omega)]; exact m3
          rw [m4, ef]
          clear ef
          rw [en] at hN1 hN2 hN3 hN4
          have o3 : ∀ u v, ¬ (k + 1 ≤ u ∧ u ≤ k + 4 ∧ v = nL Ab) → N4 u v = M3 u v := fun u v q1 => by rw [← hN4, up_ne (by omega), ← hN3, up_ne (by omega), ← hN2, up_ne (by omega), ← hN1, up_ne (by omega)]
          have v1 : N4 (k + 1) (nL Ab) = r0 := by rw [← hN4, up_ne (by omega), ← hN3, up_ne (by omega), ← hN2, up_ne (by omega), ← hN1, up_eq]
          have v2 : N4 (k + 2) (nL Ab) = r1 := by rw [← hN4, up_ne (by omega), ← hN3, up_ne (by omega), ← hN2, up_eq]
          have v3 : N4 (k + 3) (nL Ab) = r2 := by rw [← hN4, up_ne (by omega), ← hN3, up_eq]
          have v4 : N4 (k + 4) (nL Ab) = r3 := by rw [← hN4, up_eq]
          refine R_X5_readLoan_146 R (hQ _ (fun u v q1 q2 => by rw [up_ne (by omega), o3 _ _ (by omega)]; exact tfa u v q2) ?_ (ts4.kept (fun u v hu => by rw [up_ne (by omega), o3 _ _ (by omega)])))
          unfold rloM
          rw [if_pos ⟨z, by omega⟩, ← g0, ← g1, ← g2, ← g3]
          generalize hA : up (up (up (up (up Ab 11 (nL Ab) r0) 12 (nL Ab) r1) 13 (nL Ab) r2) 14 (nL Ab) r3) 10 5 (Ab 10 5 + 1) = Ab2
          have oA : ∀ u v, ¬ (11 ≤ u ∧ v = nL Ab) → ¬ (u = 10 ∧ v = 5) → Ab2 u v = Ab u v := fun u v q1 q2 => by rw [← hA, up_ne (by omega), up_ne (by omega), up_ne (by omega), up_ne (by omega), up_ne (by omega)]
          have A1 : Ab2 11 (nL Ab) = r0 := by rw [← hA, up_ne (by omega), up_ne (by omega), up_ne (by omega), up_ne (by omega), up_eq]
          have A2 : Ab2 12 (nL Ab) = r1 := by rw [← hA, up_ne (by omega), up_ne (by omega), up_ne (by omega), up_eq]
          have A3 : Ab2 13 (nL Ab) = r2 := by rw [← hA, up_ne (by omega), up_ne (by omega), up_eq]
          have A4 : Ab2 14 (nL Ab) = r3 := by rw [← hA, up_ne (by omega), up_eq]
          have A10 : Ab2 10 5 = Ab 10 5 + 1 := by rw [← hA, up_eq]
          have c10 : ∀ v, v ≠ 5 → Ab2 10 v = Ab 10 v := fun v hv => oA _ _ (by omega) (by omega)
          have nS : (Ab 10 5 + 1).toNat = nL Ab + 1 := by unfold nL; omega
          have cA : ∀ u v, u ≤ 9 → Ab2 u v = Ab u v := fun u v h1 => oA _ _ (by omega) (by omega)
          refine ⟨kk, ?_, ⟨by rw [up_eq, A10], fun i hi => ?_⟩, ⟨by rw [A10]; omega, fun i hi => ?_⟩⟩
          · have p3 := st3.2.1.ab cA (fun v hv => c10 v (by omega))
            exact ⟨p3.1, p3.2.1.kept (fun u v q1 q2 => by rw [up_ne (by omega), o3 _ _ (by omega)]), p3.2.2⟩
          · rw [A10, nS] at hi
            rw [up_ne (by omega), up_ne (by omega), up_ne (by omega), up_ne (by omega)]
            show N4 (k + 1) i = Ab2 11 i ∧ N4 (k + 2) i = Ab2 12 i ∧ N4 (k + 3) i = Ab2 13 i ∧ N4 (k + 4) i = Ab2 14 i
            by_cases q : i = nL Ab
            · subst q; rw [v1, v2, v3, v4, A1, A2, A3, A4]; exact ⟨rfl, rfl, rfl, rfl⟩
            · rw [o3 _ _ (by omega), o3 _ _ (by omega), o3 _ _ (by omega), o3 _ _ (by omega), oA 11 _ (by omega) (by omega), oA 12 _ (by omega) (by omega), oA 13 _ (by omega) (by omega), oA 14 _ (by omega) (by omega)]; exact lr3.2 i (by unfold nL at hi q; omega)
          · rw [A10, nS] at hi
            show (0 ≤ Ab2 11 i ∧ Ab2 11 i < Ab2 10 2) ∧ (0 ≤ Ab2 12 i ∧ Ab2 12 i < Ab2 10 1) ∧ Ab2 12 i ≠ Ab2 0 (Ab2 11 i).toNat ∧ (0 ≤ Ab2 13 i ∧ Ab2 13 i ≤ 119) ∧ (Ab2 13 i < Ab2 14 i ∧ Ab2 14 i ≤ 120)
            rw [c10 2 (by decide), c10 1 (by decide), cA 0 _ (by decide)]
            by_cases q : i = nL Ab
            · subst q; rw [A1, A2, A3, A4]; exact ⟨b0, b1, b2, b4, by omega, by omega⟩
            · rw [oA 11 _ (by omega) (by omega), oA 12 _ (by omega) (by omega), oA 13 _ (by omega) (by omega), oA 14 _ (by omega) (by omega)]; exact lok hlo (by unfold nL at hi q; omega)
      · unfold rloM
        rw [if_neg (fun y => z y.1)]
        exact st3
    have ep : f_sub (M pl 3) 1 = Ab 10 2 - 1 := by rw [hp.2.1]; exact w1 (by omega) (by omega) rfl
    refine ⟨Nat.le_of_ble_eq_true rfl, R_X5_readLoan_0 R (an (pl_ob hk) ?_)⟩
    show OB 1 9 ∧ nf G_X9_readNumber [.inr (.inl 1), .inl 0, .inl (f_sub (M pl 3) 1)] M _
    rw [ep]
    clear ep
    refine an o1 (use_num (by omega) ts (fun M1 r0 tf1 ts1 hr0 => an (pl_ob hk) ?_))
    have hp1 : PlanRel M1 pl Ab := hp.kept (fun u v q1 q2 => tf1 u v (by have := kk.2; omega))
    have ep : f_sub (M1 pl 0) 1 = Ab 10 1 - 1 := by rw [hp1.1]; exact w1 (by omega) (by omega) rfl
    show OB 1 9 ∧ nf G_X9_readNumber [.inr (.inl 1), .inl 0, .inl (f_sub (M1 pl 0) 1)] M1 _
    rw [ep]
    clear ep
    refine an o1 (use_num (by omega) ts1 (fun M2 r1 tf2 ts2 hr1 => an o1 (use_snd ts2 (fun z => bf (by decide) (an (pl_ob hk) ?_)) (fun z => bt rfl (at56 M2 r0 r1 _ _ (tf1.tr tf2) ?_ (fun y => absurd (lo3_ok y).1 z))))))
    · have z : (lo2 B e Ab s).2.2.1 = 0 := z
      have n2 := nu_ok z
      have n1 := nu_ok n2.1
      have x0 : r0 = nuV B e s := hr0 n2.1
      have x1 : r1 = nuV B e (lo1 B e Ab s) := hr1 z
      have y0 : 0 ≤ nuV B e s ∧ nuV B e s ≤ Ab 10 2 - 1 := n1.2
      have y1 : 0 ≤ nuV B e (lo1 B e Ab s) ∧ nuV B e (lo1 B e Ab s) ≤ Ab 10 1 - 1 := n2.2
      have tf12 := tf1.tr tf2
      have hp2 : PlanRel M2 pl Ab := hp.kept (fun u v q1 q2 => tf12 u v (by have := kk.2; omega))
      refine ⟨Ab, ⟨hk, hp2, ho⟩, br (fun q => bf (by decide) (an (pl_ob hk) (an (ak_of (pl_3 hk) (by omega) (by omega)) ?_))) (fun q => absurd (show 0 ≤ r0 ∧ r0 < Ab 10 2 by omega) q)⟩
      have e3 : M2 (pl + 3) r0.toNat = Ab 0 r0.toNat := (hp2.2.2.2.2.2.2.1 r0.toNat (by unfold nT; omega)).1
      rw [e3]
      refine br (fun g => at56 M2 r0 r1 _ _ tf12 ?_ (fun _ => ⟨x0, x1, by omega, by omega, fun y => g y.symm⟩)) (fun g => an o1 (use_ref ts2 (fun M3 tf3 ts3 => at56 M3 r0 r1 _ _ (tf12.tr tf3) ?_ (fun y => ?_))))
      · have g : ¬ Ab 0 r0.toNat = r1 := g
        unfold lo3
        rw [if_neg (fun c => ?_)]
        · exact ts2
        · unfold loC at c
          rw [Bool.and_eq_true, decide_eq_true_eq, decide_eq_true_eq, ← x0, ← x1] at c
          exact g c.2
      · have g : Ab 0 r0.toNat = r1 := Classical.not_not.mp g
        unfold lo3
        rw [if_pos (by unfold loC; rw [Bool.and_eq_true, decide_eq_true_eq, decide_eq_true_eq, ← x0, ← x1]; exact ⟨z, g⟩)]
        exact ts3
      · have g : Ab 0 r0.toNat = r1 := Classical.not_not.mp g
        have := (lo3_ok y).2
        rw [← x0, ← x1] at this
        exact absurd g this
    · have z : ¬ (lo2 B e Ab s).2.2.1 = 0 := z
      unfold lo3
      rw [if_neg (fun c => ?_)]
      · exact ts2
      · unfold loC at c
        rw [Bool.and_eq_true, decide_eq_true_eq] at c
        exact z c.1

  · exact h.elim