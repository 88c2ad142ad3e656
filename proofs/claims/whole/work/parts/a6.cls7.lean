theorem hm_f (B : Nat → Int) (e : Nat) (s : Tp) : (hmT B e s).2.2 = s.2.2 := by unfold hmT; split <;> rfl
theorem wd_f (B : Nat → Int) (e : Nat) (s : Tp) : (wdT B e s).2.2 = s.2.2 := by unfold wdT; split <;> rfl
theorem hm_0 {B : Nat → Int} {e : Nat} {s : Tp} (q : hmB B e s = true) : s.2.2.1 = 0 := by
  unfold hmB at q
  rw [Bool.and_eq_true] at q
  exact of_decide_eq_true q.1
theorem pr_fp {B : Nat → Int} {e : Nat} : ∀ {n : Nat} {x : Mem × Tp}, (prS B e n x).2.2.2.1 = 0 → x.2.2.2.1 = 0 ∧ (prS B e n x).2.2.2.2 = x.2.2.2.2
  | 0, x, h => ⟨h, rfl⟩
  | n + 1, x, h => by
    rw [prS] at h ⊢
    by_cases q : hmB B e x.2 = true
    · rw [if_pos q] at h ⊢
      obtain ⟨i1, i2⟩ := pr_fp h
      have i1 : (stT B e (clT B e x.1 (if n = 0 then 0 else 1) (wdT B e (hmT B e x.2)))).2.2.1 = 0 := i1
      exact ⟨hm_0 q, i2.trans ((st_fp i1).trans ((cl_fp (st_fk i1)).trans (congrArg Prod.snd ((wd_f B e _).trans (hm_f B e x.2)))))⟩
    · rw [if_neg q] at h ⊢
      have hf := hm_f B e x.2
      exact ⟨(congrArg Prod.fst hf).symm.trans h, congrArg Prod.snd hf⟩
theorem ll_fp {B : Nat → Int} {e : Nat} : ∀ {n : Nat} {x : Mem × Tp}, (llS B e n x).2.2.2.1 = 0 → x.2.2.2.1 = 0 ∧ (llS B e n x).2.2.2.2 = x.2.2.2.2
  | 0, x, h => ⟨h, rfl⟩
  | n + 1, x, h => by
    rw [llS] at h ⊢
    by_cases q : hmB B e x.2 = true
    · rw [if_pos q] at h ⊢
      obtain ⟨i1, i2⟩ := ll_fp h
      have i1 : (stT B e (lo5 B e x.1 (loW B e n (wdT B e (hmT B e x.2))))).2.2.1 = 0 := i1
      have z5 := st_fk i1
      obtain ⟨zf, zn⟩ := lw_fp (lo5_ok z5).2.2.2.2.1
      exact ⟨hm_0 q, i2.trans ((st_fp i1).trans ((lo_fp z5).trans (zf.trans (congrArg Prod.snd ((wd_f B e _).trans (hm_f B e x.2))))))⟩
    · rw [if_neg q] at h ⊢
      have hf := hm_f B e x.2
      exact ⟨(congrArg Prod.fst hf).symm.trans h, congrArg Prod.snd hf⟩
theorem CuK.kept3 {M M' Ab : Mem} (h : CuK M Ab) (e : ∀ u v, 41 ≤ u → u < 69 → M' u v = M u v) (ep : ∀ u v, (M 0 1).toNat ≤ u → u ≤ (M 0 1).toNat + 10 → M' u v = M u v) (el : ∀ u v, (M 0 3).toNat ≤ u → u ≤ (M 0 3).toNat + 4 → M' u v = M u v) (e1 : M' 0 1 = M 0 1) (e3 : M' 0 3 = M 0 3) : CuK M' Ab := by
  obtain ⟨⟨h0, h1, h2, h3, h4, h5⟩, q2, q3⟩ := h
  have f0 := e 42 0 (by omega) (by omega)
  have f1 := e 42 1 (by omega) (by omega)
  refine ⟨⟨?_, fun m t a b => by rw [e _ _ (by omega) (by omega)]; exact h1 m t a b, fun m t a b => by rw [e _ _ (by omega) (by omega)]; exact h2 m t a b, fun k l s a b c => by rw [e _ _ (by omega) (by omega)]; exact h3 k l s a b c, fun t a => by rw [e _ _ (by omega) (by omega)]; exact h4 t a, fun t a => by rw [e _ _ (by omega) (by omega)]; exact h5 t a⟩, by rw [f0, e1]; exact q2, by rw [f1, e3]; exact q3⟩
  obtain ⟨s1, s2, s3, s4, s5, s6, s7⟩ := h0
  exact ⟨s1, by rw [f0]; exact s2, by rw [f1]; exact s3, by rw [f0]; exact s4.kept (fun u v a b => ep u v (by omega) (by omega)), by rw [f1]; exact s5.kept (fun u v a b => el u v (by omega) (by omega)), s6, s7⟩
theorem tp_ok {s : AS} (h : TaOK s) (fp : Int) : TaOK (s.1, tpA s.2.1 fp, s.2.2) := by
  refine ⟨?_, fun i hi => ?_⟩
  · show 0 ≤ up (up s.2.1 10 8 0) 10 9 fp 10 8 ∧ up (up s.2.1 10 8 0) 10 9 fp 10 8 ≤ 600
    rw [up_ne (by omega), up_eq]; decide
  · show 0 ≤ up (up s.2.1 10 8 0) 10 9 fp 18 i ∧ up (up s.2.1 10 8 0) 10 9 fp 18 i < 256
    rw [up_ne (by omega), up_ne (by omega)]; exact h.2 i hi
theorem tp_a (Ac : Mem) (fp : Int) : ∀ u v, ¬ (u = 10 ∧ (v = 8 ∨ v = 9)) → tpA Ac fp u v = Ac u v := fun u v h => by unfold tpA; rw [up_ne (by omega), up_ne (by omega)]
theorem tp_8 (Ac : Mem) (fp : Int) : tpA Ac fp 10 8 = 0 := by unfold tpA; rw [up_ne (by omega), up_eq]
theorem tp_9 (Ac : Mem) (fp : Int) : tpA Ac fp 10 9 = fp := by unfold tpA; rw [up_eq]
/-- a text was read, the spare things hold what may come -/
theorem Cls.spare {M M' : Mem} {s : AS} {fp : Int} (h : Cls M s) (e : ∀ u v, ¬ (1 ≤ u ∧ u ≤ 2) → ¬ ((M 0 2).toNat ≤ u ∧ u ≤ (M 0 2).toNat + 10) → ¬ ((M 0 4).toNat ≤ u ∧ u ≤ (M 0 4).toNat + 4) → M' u v = M u v) (t2 : M' 1 1 = 0) (t3 : M' 1 6 = fp) (t4 : ∀ i, i < 600 → M' 2 i = M 2 i) : Cls M' (s.1, tpA s.2.1 fp, s.2.2) := by
  obtain ⟨c1, c2, c3, ⟨b1, b2⟩, ⟨⟨i0, i1⟩, i2, i3⟩, ⟨ta, -, -, ty⟩, ⟨r1, r2⟩, k1, k2⟩ := h
  have n3 : nI3 s ≤ 3 := by unfold nI3; omega
  have en : nI3 (s.1, tpA s.2.1 fp, s.2.2) = nI3 s := by show (tpA s.2.1 fp 10 7).toNat = _; rw [tp_a _ _ _ _ (by omega)]; rfl
  have e0 : ∀ v, M' 0 v = M 0 v := fun v => e 0 v (by omega) (by omega) (by omega)
  refine ⟨⟨by rw [e0]; exact c1.1, by rw [e0]; exact c1.2.1, by rw [e0]; exact c1.2.2.1.kept (fun u v a b => e u v (by omega) (by omega) (by omega)), by rw [e0]; exact c1.2.2.2.1.kept (fun u v a b => e u v (by omega) (by omega) (by omega)), c1.2.2.2.2⟩, by rw [e0, e0]; exact c2, by rw [e0, e0]; exact c3, ⟨b1.kept (fun u v a b => e u v (by omega) (by omega) (by omega)), b2⟩, ⟨⟨?_, fun i hi => ?_⟩, ?_, fun i hi => ?_⟩, ⟨tp_ok ta fp, t2.trans (tp_8 s.2.1 fp).symm, t3.trans (tp_9 s.2.1 fp).symm, fun i hi => ?_⟩, ⟨?_, ?_⟩, fun z => (k1 (by rw [e _ _ (by omega) (by omega) (by omega)] at z; exact z)).kept3 (fun u v a b => e u v (by omega) (by omega) (by omega)) (fun u v a b => e u v (by omega) (by omega) (by omega)) (fun u v a b => e u v (by omega) (by omega) (by omega)) (e0 _) (e0 _), fun z => (k2 (by rw [e _ _ (by omega) (by omega) (by omega)] at z; exact z)).kept (fun v => e _ _ (by omega) (by omega) (by omega))⟩
  · show 0 ≤ tpA s.2.1 fp 10 7 ∧ tpA s.2.1 fp 10 7 ≤ 3
    rw [tp_a _ _ _ _ (by omega)]; exact i0
  · rw [en] at hi
    exact i1 i hi
  · show _ = tpA s.2.1 fp 10 7
    rw [tp_a _ _ _ _ (by omega), e0]; exact i2
  · rw [en] at hi
    exact ⟨(i3 i hi).1.kept (fun u v a b => e u v (by omega) (by omega) (by omega)), (i3 i hi).2.kept (fun u v a b => e u v (by omega) (by omega) (by omega))⟩
  · show _ = w8 (tpA s.2.1 fp 18 i)
    rw [tp_a _ _ _ _ (by omega), t4 i hi]; exact ty i hi
  · show _ = tpA s.2.1 fp 10 10
    rw [tp_a _ _ _ _ (by omega), e0]; exact r1
  · show _ = tpA s.2.1 fp 10 11
    rw [tp_a _ _ _ _ (by omega), e0]; exact r2
def FdI (M M' : Mem) (T : Nat) (f : Nat → Int) (i : Nat) : Prop := M' 1 1 = ((T + 4 * i : Nat) : Int) ∧ (∀ u v, ¬ (u = 1 ∧ v = 1) → ¬ (u = 2 ∧ T ≤ v ∧ v < T + 20) → M' u v = M u v) ∧ ∀ j, j < 4 * i → M' 2 (T + j) = w8 (byt (f j) (j % 4))
theorem fd_step {M M1 M2 : Mem} {T i : Nat} {x : Int} {f : Nat → Int} (hi : i < 5) (h : FdI M M1 T f i) (hx : ∀ j, j < 4 → f (4 * i + j) = x) (f2 : ∀ u v, ¬ (u = 1 ∧ v = 1) → ¬ (u = 2 ∧ (M1 1 1).toNat ≤ v ∧ v < (M1 1 1).toNat + 4) → M2 u v = M1 u v) (n2 : M2 1 1 = M1 1 1 + 4) (b : ∀ j, j < 4 → M2 2 ((M1 1 1).toNat + j) = w8 (x / 2 ^ (24 - 8 * j) % 256)) : FdI M M2 T f (i + 1) := by
  obtain ⟨a1, a2, a3⟩ := h
  have e : (M1 1 1).toNat = T + 4 * i := by omega
  rw [e] at f2 b
  refine ⟨by omega, fun u v h1 h2 => (f2 u v h1 (by omega)).trans (a2 u v h1 h2), fun j hj => ?_⟩
  by_cases q : j < 4 * i
  · rw [f2 2 (T + j) (by omega) (by omega)]; exact a3 j q
  · have := b (j - 4 * i) (by omega)
    have e1 : T + 4 * i + (j - 4 * i) = T + j := by omega
    have e2 : f j = x := by have := hx (j - 4 * i) (by omega); rwa [show 4 * i + (j - 4 * i) = j by omega] at this
    have e3 : j % 4 = j - 4 * i := by omega
    rw [e1] at this
    rw [e2, e3]
    exact this
def G_X10_feed : FN := fun as M Q => match as with
  | [.inr (.inl k), .inl a, .inl b, .inl c, .inl d, .inl e] => (k = 0 ∧ okI a ∧ okI b ∧ okI c ∧ okI d ∧ okI e) ∧ cN (an_feed a b c d e) M Q
  | _ => False
def F_X10_hall : FT := fun as M Q => match as with
  | [.inr (.inl k), .inl n] => k = 0 ∧ cS (an_hall n) M Q
  | _ => False
def F_X10_lend : FT := fun as M Q => match as with
  | [.inr (.inl k), .inl n] => k = 0 ∧ cS (an_lend n) M Q
  | _ => False
def b_X10_feed_0 : List AT := [tx_al 0, tx_gr 10 1, tx_gi 9 1, tx_ic 20, tx_bin f_add, tx_ic 600, tx_cmp r_le 18, tx_ic (-1), tx_ri]
def b_X10_feed_18 : List AT := [tx_al 0, tx_gr 10 1, tx_il 1, tx_callv 9 (nf G_X9_put) 1, tx_al 0, tx_gr 10 1, tx_il 2, tx_callv 9 (nf G_X9_put) 1, tx_al 0, tx_gr 10 1, tx_il 3, tx_callv 9 (nf G_X9_put) 1, tx_al 0, tx_gr 10 1, tx_il 4, tx_callv 9 (nf G_X9_put) 1, tx_al 0, tx_gr 10 1, tx_il 5, tx_callv 9 (nf G_X9_put) 1, tx_al 0, tx_gr 10 1, tx_gi 9 1, tx_ri]
def R_X10_feed (J : JT) (Q : QT) : Prop := (∀ ls st M, wpl J Q b_X10_feed_0 ls st M → J 0 ls st M) ∧ (∀ ls st M, wpl J Q b_X10_feed_18 ls st M → J 18 ls st M)
theorem R_X10_feed_0 {J : JT} {Q : QT} (R : R_X10_feed J Q) {ls : Ls} {st : St} {M : Mem} (h : wpl J Q b_X10_feed_0 ls st M) : J 0 ls st M := R.1 ls st M h
theorem R_X10_feed_18 {J : JT} {Q : QT} (R : R_X10_feed J Q) {ls : Ls} {st : St} {M : Mem} (h : wpl J Q b_X10_feed_18 ls st M) : J 18 ls st M := R.2 ls st M h
def b_X10_hall_0 : List AT := [tx_al 0, tx_il 1, tx_ifz r_lt 20, tx_il 1, tx_al 0, tx_gr 10 1, tx_gi 9 1, tx_cmp r_gt 20, tx_ic 1, tx_fall 21]
def b_X10_hall_20 : List AT := [tx_ic 0, tx_fall 21]
def b_X10_hall_21 : List AT := [tx_callv 10 F_X10_needArgument 1, tx_al 0, tx_gr 10 1, tx_il 1, tx_callv 9 (nf G_X9_open) 1, tx_al 0, tx_gm 10 2, tx_al 0, tx_gr 10 1, tx_callv 6 (nf G_X6_readFrom) 1, tx_al 0, tx_gr 10 1, tx_callv 9 (nf G_X9_isSound) 0, tx_ifz r_ne 64, tx_al 0, tx_gr 10 1, tx_gi 9 5, tx_ic 10, tx_bin f_sub, tx_ri]
def b_X10_hall_64 : List AT := tx_al 0 :: tx_gm 10 1 :: tx_as 2 :: tx_al 0 :: tx_al 0 :: tx_gm 10 2 :: tx_pm 10 1 :: tx_al 0 :: tx_al 2 :: tx_pm 10 2 :: tx_al 0 :: tx_gm 10 3 :: tx_callv 5 (nf G_X5_clear) 0 :: tx_al 0 :: tx_gr 10 35 :: tx_callv 0 (nf G_X0_clear) 0 :: tx_al 0 :: tx_ic 0 :: tx_pi 10 8 :: tx_al 0 :: tx_callv 10 (nf G_X10_startAnew) 0 :: tx_al 0 :: tx_gm 10 1 :: tx_gi 6 0 :: tx_ri :: []
def R_X10_hall (J : JT) (Q : QT) : Prop := (∀ ls st M, wpl J Q b_X10_hall_0 ls st M → J 0 ls st M) ∧ (∀ ls st M, wpl J Q b_X10_hall_20 ls st M → J 20 ls st M) ∧ (∀ ls st M, wpl J Q b_X10_hall_21 ls st M → J 21 ls st M) ∧ (∀ ls st M, wpl J Q b_X10_hall_64 ls st M → J 64 ls st M)
theorem R_X10_hall_0 {J : JT} {Q : QT} (R : R_X10_hall J Q) {ls : Ls} {st : St} {M : Mem} (h : wpl J Q b_X10_hall_0 ls st M) : J 0 ls st M := R.1 ls st M h
theorem R_X10_hall_20 {J : JT} {Q : QT} (R : R_X10_hall J Q) {ls : Ls} {st : St} {M : Mem} (h : wpl J Q b_X10_hall_20 ls st M) : J 20 ls st M := R.2.1 ls st M h
theorem R_X10_hall_21 {J : JT} {Q : QT} (R : R_X10_hall J Q) {ls : Ls} {st : St} {M : Mem} (h : wpl J Q b_X10_hall_21 ls st M) : J 21 ls st M := R.2.2.1 ls st M h
theorem R_X10_hall_64 {J : JT} {Q : QT} (R : R_X10_hall J Q) {ls : Ls} {st : St} {M : Mem} (h : wpl J Q b_X10_hall_64 ls st M) : J 64 ls st M := R.2.2.2 ls st M h
def b_X10_lend_0 : List AT := [tx_al 0, tx_il 1, tx_ifz r_lt 27, tx_il 1, tx_al 0, tx_gr 10 1, tx_gi 9 1, tx_cmp r_gt 27, tx_il 1, tx_ic 300, tx_cmp r_gt 27, tx_ic 1, tx_fall 28]
def b_X10_lend_27 : List AT := [tx_ic 0, tx_fall 28]
def b_X10_lend_28 : List AT := [tx_callv 10 F_X10_needArgument 1, tx_al 0, tx_gr 10 1, tx_il 1, tx_callv 9 (nf G_X9_open) 1, tx_al 0, tx_gm 10 4, tx_al 0, tx_gr 10 1, tx_al 0, tx_gm 10 1, tx_callv 5 (nf G_X5_readFrom) 2, tx_al 0, tx_gr 10 1, tx_callv 9 (nf G_X9_isSound) 0, tx_ifz r_ne 75, tx_al 0, tx_gr 10 1, tx_gi 9 5, tx_ic 10, tx_bin f_sub, tx_ri]
def b_X10_lend_75 : List AT := [tx_al 0, tx_gm 10 3, tx_as 2, tx_al 0, tx_al 0, tx_gm 10 4, tx_pm 10 3, tx_al 0, tx_al 2, tx_pm 10 4, tx_al 0, tx_callv 10 (nf G_X10_startAnew) 0, tx_al 0, tx_gm 10 3, tx_gi 5 0, tx_ri]
def R_X10_lend (J : JT) (Q : QT) : Prop := (∀ ls st M, wpl J Q b_X10_lend_0 ls st M → J 0 ls st M) ∧ (∀ ls st M, wpl J Q b_X10_lend_27 ls st M → J 27 ls st M) ∧ (∀ ls st M, wpl J Q b_X10_lend_28 ls st M → J 28 ls st M) ∧ (∀ ls st M, wpl J Q b_X10_lend_75 ls st M → J 75 ls st M)
theorem R_X10_lend_0 {J : JT} {Q : QT} (R : R_X10_lend J Q) {ls : Ls} {st : St} {M : Mem} (h : wpl J Q b_X10_lend_0 ls st M) : J 0 ls st M := R.1 ls st M h
theorem R_X10_lend_27 {J : JT} {Q : QT} (R : R_X10_lend J Q) {ls : Ls} {st : St} {M : Mem} (h : wpl J Q b_X10_lend_27 ls st M) : J 27 ls st M := R.2.1 ls st M h
theorem R_X10_lend_28 {J : JT} {Q : QT} (R : R_X10_lend J Q) {ls : Ls} {st : St} {M : Mem} (h : wpl J Q b_X10_lend_28 ls st M) : J 28 ls st M := R.2.2.1 ls st M h
theorem R_X10_lend_75 {J : JT} {Q : QT} (R : R_X10_lend J Q) {ls : Ls} {st : St} {M : Mem} (h : wpl J Q b_X10_lend_75 ls st M) : J 75 ls st M := R.2.2.2 ls st M h
theorem P_X10_feed {J : JT} {Q : QT} (R : R_X10_feed J Q) {as : List Vl} {M : Mem} (h : nf G_X10_feed as M Q) : (enL as).length ≤ 6 ∧ J 0 (padL 6 (enL as)) [] M := by
  unfold nf G_X10_feed at h
  split at h
  · rename_i k a b c d e
    obtain ⟨⟨rfl, oa, ob, oc, od, oe⟩, s, hM, hQ⟩ := h
    obtain ⟨⟨tb, tB⟩, t1, t3, t4⟩ := hM.2.2.2.2.2.1
    have e20 : f_add (M 1 1) 20 = s.2.1 10 8 + 20 := by rw [t1]; exact w1 (by omega) (by omega) rfl
    refine ⟨Nat.le_of_ble_eq_true rfl, R_X10_feed_0 R (an o0 (an o1 ?_))⟩
    show (f_add (M 1 1) 20 ≤ 600 → _) ∧ (¬ f_add (M 1 1) 20 ≤ 600 → _)
    rw [e20]
    refine br (fun g => R_X10_feed_18 R ?_) (fun g => ?_)
    · have ea : an_feed a b c d e s = _ := if_neg (show ¬ 600 < s.2.1 10 8 + 20 by omega)
      rw [ea] at hQ
      obtain ⟨T, hT⟩ : ∃ T : Nat, s.2.1 10 8 = (T : Int) := ⟨(s.2.1 10 8).toNat, by omega⟩
      have hTn : (s.2.1 10 8).toNat = T := by omega
      have g0 : FdI M M T (sel5 a b c d e) 0 := ⟨by omega, fun _ _ _ _ => rfl, fun j hj => absurd hj (by omega)⟩
      have m0 := g0.1
      refine an o0 (an o1 ⟨⟨rfl, by omega, by omega, oa⟩, fun M1 f1 n1 b1 => ?_⟩)
      have g1 := fd_step (by decide) g0 (fun j hj => if_pos (by omega)) f1 n1 b1
      have m1 := g1.1
      refine an o0 (an o1 ⟨⟨rfl, by omega, by omega, ob⟩, fun M2 f2 n2 b2 => ?_⟩)
      have g2 := fd_step (by decide) g1 (fun j hj => (if_neg (by omega)).trans (if_pos (by omega))) f2 n2 b2
      have m2 := g2.1
      refine an o0 (an o1 ⟨⟨rfl, by omega, by omega, oc⟩, fun M3 f3 n3 b3 => ?_⟩)
      have g3 := fd_step (by decide) g2 (fun j hj => (if_neg (by omega)).trans ((if_neg (by omega)).trans (if_pos (by omega)))) f3 n3 b3
      have m3 := g3.1
      refine an o0 (an o1 ⟨⟨rfl, by omega, by omega, od⟩, fun M4 f4 n4 b4 => ?_⟩)
      have g4 := fd_step (by decide) g3 (fun j hj => (if_neg (by omega)).trans ((if_neg (by omega)).trans ((if_neg (by omega)).trans (if_pos (by omega))))) f4 n4 b4
      have m4 := g4.1
      refine an o0 (an o1 ⟨⟨rfl, by omega, by omega, oe⟩, fun M5 f5 n5 b5 => an o0 (an o1 ?_)⟩)
      have g5 := fd_step (by decide) g4 (fun j hj => (if_neg (by omega)).trans ((if_neg (by omega)).trans ((if_neg (by omega)).trans (if_neg (by omega))))) f5 n5 b5
      clear g0 g1 g2 g3 g4 f1 f2 f3 f4 f5 b1 b2 b3 b4 b5 n1 n2 n3 n4 n5 m0 m1 m2 m3 m4
      obtain ⟨x1, x2, x3⟩ := g5
      show Q (.inl (some (vI (M5 1 1)))) M5
      have e5 : M5 1 1 = s.2.1 10 8 + 20 := by omega
      rw [e5]
      refine hQ M5 (fun u v hu => x2 u v (by omega) (by omega)) (hM.tp (fun u v hu => x2 u v (by omega) (by omega)) (fun v hv => fdA_c _ _ (by omega) (by omega)) ⟨?_, fun i hi => ?_⟩ e5 ?_ (fun i hi => ?_))
      · show 0 ≤ s.2.1 10 8 + 20 ∧ s.2.1 10 8 + 20 ≤ 600
        omega
      · show 0 ≤ (if (s.2.1 10 8).toNat ≤ i ∧ i < (s.2.1 10 8).toNat + 20 then byt _ _ else s.2.1 18 i) ∧ (if (s.2.1 10 8).toNat ≤ i ∧ i < (s.2.1 10 8).toNat + 20 then byt _ _ else s.2.1 18 i) < 256
        split
        · unfold byt; omega
        · exact tB i hi
      · show _ = fdA s.2.1 a b c d e 10 9
        rw [fdA_c _ _ (by omega) (by omega), x2 _ _ (by omega) (by omega)]; exact t3
      · show M5 2 i = w8 (if (s.2.1 10 8).toNat ≤ i ∧ i < (s.2.1 10 8).toNat + 20 then byt (sel5 a b c d e (i - (s.2.1 10 8).toNat)) ((i - (s.2.1 10 8).toNat) % 4) else s.2.1 18 i)
        rw [hTn]
        by_cases q : T ≤ i ∧ i < T + 20
        · rw [if_pos q]
          have := x3 (i - T) (by omega)
          rw [show T + (i - T) = i by omega] at this
          exact this
        · rw [if_neg q, x2 _ _ (by omega) (by omega)]; exact t4 i hi
    · have ea : an_feed a b c d e s = yea s (-1) := if_pos (by omega)
      rw [ea] at hQ
      exact hQ M (CF.rf M) hM

  · exact h.elim
theorem P_X10_hall {J : JT} {Q : QT} (R : R_X10_hall J Q) {as : List Vl} {M : Mem} (h : F_X10_hall as M Q) : (enL as).length ≤ 3 ∧ J 0 (padL 3 (enL as)) [] M := by
  unfold F_X10_hall at h
  split at h
  · rename_i k n
    obtain ⟨rfl, s, hM, hQ⟩ := h
    have hpl := hM.pl
    have hk := hpl.1
    have hp := hpl.2.1
    have ho := hpl.2.2
    have t11 : M 1 1 = s.2.1 10 8 := hM.2.2.2.2.2.1.2.1
    have no2 : ¬ (0 ≤ n ∧ n ≤ s.2.1 10 8) → an_hall n s = nay s 2 := fun c => if_pos c
    have ea : (0 ≤ n ∧ n ≤ s.2.1 10 8) → an_hall n s = _ := fun c2 => if_neg (fun z => z c2)
    have atB : ∀ b : Int, (b = 1 ∧ (0 ≤ n ∧ n ≤ s.2.1 10 8)) ∨ (b = 0 ∧ ¬ (0 ≤ n ∧ n ≤ s.2.1 10 8)) → J 21 [some (vR 0), some (vI n), none] [vI b, vR 0] M := by
      intro b hb
      rcases hb with ⟨rfl, c2⟩ | ⟨rfl, c2⟩
      · refine R_X10_hall_21 R (an o0 ⟨rfl, fun _ => ?_, fun z => absurd z (by decide)⟩)
        have ea := ea c2
        obtain ⟨tok, tt1, tt3, tB⟩ := hM.2.2.2.2.2.1
        have tb := tok.1
        have spk := hM.2.1
        have lpk := hM.2.2.1
        refine an o0 (an o1 ⟨fun i => s.2.1 18 i, ⟨rfl, c2.1, by omega⟩, fun i hi => ⟨tB i hi, tok.2 i hi⟩, fun M1 f1 e1 ts1 => ?_⟩)
        have s1 : M1 0 2 = M 0 2 := f1 _ _ (by omega)
        have pk : PlanAt (M1 0 2).toNat := by rw [s1]; rcases spk with q | q <;> rw [q.2] <;> simp [PlanAt]
        refine an o0 (an o0 (an (pl_ob pk) ⟨fun i => s.2.1 18 i, n.toNat, (0, 0, 0, -1), ⟨rfl, pk⟩, ts1, fun M2 f2 p2 ts2 => ?_⟩))
        rw [s1] at f2 p2
        have fpq := pr_fp (B := fun i => s.2.1 18 i) (e := n.toNat) (n := 61) (x := (Ab0, (0, 0, 0, -1)))
        change PL M2 _ (hlR s n).1 at p2
        change TSs M2 _ _ (hlR s n).2 at ts2
        change (hlR s n).2.2.2.1 = 0 → _ ∧ (hlR s n).2.2.2.2 = -1 at fpq
        generalize hlR s n = Rz at ea p2 ts2 fpq
        obtain ⟨-, -, -, w5, w6, -, -, -, -⟩ := ts2
        have fr : ∀ u v, ¬ (u = 1 ∧ 1 ≤ v ∧ v ≤ 6) → ¬ ((M 0 2).toNat ≤ u ∧ u ≤ (M 0 2).toNat + 10) → M2 u v = M u v := fun u v a b => (f2 u v b (by omega)).trans (f1 u v a)
        have e21 : M2 1 1 = 0 := (f2 1 1 (by omega) (by omega)).trans e1
        refine an o0 (an o1 ⟨rfl, br (fun g => bt (by decide) (R_X10_hall_64 R ?_)) (fun g => bf (by decide) (an o0 (an o1 ?_)))⟩)
        · have z : Rz.2.2.2.1 = 0 := w5.symm.trans g
          have ea := ea.trans (if_neg (fun y => y z))
          have w6 := w6.trans (fpq z).2
          refine an o0 (an o0 (an o0 (an ?_ (an o0 (an ?_ (an o0 ?_))))))
          · show (M2 0 2).toNat < 337
            rw [fr 0 2 (by omega) (by omega)]; omega
          · show (M2 0 1).toNat < 337
            rw [fr 0 1 (by omega) (by omega)]; omega
          show OB (up (up M2 0 1 (((M2 0 2).toNat : Nat) : Int)) 0 2 (((M2 0 1).toNat : Nat) : Int) 0 3).toNat 5 ∧ nf G_X5_clear [.inr (.inl (up (up M2 0 1 (((M2 0 2).toNat : Nat) : Int)) 0 2 (((M2 0 1).toNat : Nat) : Int) 0 3).toNat)] (up (up M2 0 1 (((M2 0 2).toNat : Nat) : Int)) 0 2 (((M2 0 1).toNat : Nat) : Int)) _
          have u1 : (((M2 0 1).toNat : Nat) : Int).toNat = (M 0 1).toNat := by rw [Int.toNat_natCast, fr 0 1 (by omega) (by omega)]
          have u2 : (((M2 0 2).toNat : Nat) : Int).toNat = (M 0 2).toNat := by rw [Int.toNat_natCast, fr 0 2 (by omega) (by omega)]
          generalize (((M2 0 1).toNat : Nat) : Int) = w1' at u1
          generalize (((M2 0 2).toNat : Nat) : Int) = w2' at u2
          have u3 : up (up M2 0 1 w2') 0 2 w1' 0 3 = M 0 3 := by rw [up_ne (by omega), up_ne (by omega)]; exact fr 0 3 (by omega) (by omega)
          rw [u3]
          have la := hM.lo
          have l3 := hM.1.2.1
          refine an (lo_ob la) ⟨la, an o0 (an o35 ⟨Or.inl rfl, an o0 (an o0 ⟨rfl, an o0 ?_⟩)⟩)⟩
          show OB (up (up (up (up (up (up (up M2 0 1 w2') 0 2 w1') (M 0 3).toNat 0 0) 35 0 0) 0 8 0) 41 4 0) 129 0 0 0 1).toNat 6 ∧ Q (.inl (some (vI (up (up (up (up (up (up (up M2 0 1 w2') 0 2 w1') (M 0 3).toNat 0 0) 35 0 0) 0 8 0) 41 4 0) 129 0 0 (up (up (up (up (up (up (up M2 0 1 w2') 0 2 w1') (M 0 3).toNat 0 0) 35 0 0) 0 8 0) 41 4 0) 129 0 0 0 1).toNat 0)))) _
          have k01 : up (up (up (up (up (up (up M2 0 1 w2') 0 2 w1') (M 0 3).toNat 0 0) 35 0 0) 0 8 0) 41 4 0) 129 0 0 0 1 = w2' := by rw [up_ne (by omega), up_ne (by omega), up_ne (by omega), up_ne (by omega), up_ne (by omega), up_ne (by omega), up_eq]
          have k02 : up (up (up (up (up (up (up M2 0 1 w2') 0 2 w1') (M 0 3).toNat 0 0) 35 0 0) 0 8 0) 41 4 0) 129 0 0 0 2 = w1' := by rw [up_ne (by omega), up_ne (by omega), up_ne (by omega), up_ne (by omega), up_ne (by omega), up_eq]
          have kL : up (up (up (up (up (up (up M2 0 1 w2') 0 2 w1') (M 0 3).toNat 0 0) 35 0 0) 0 8 0) 41 4 0) 129 0 0 (M 0 3).toNat 0 = 0 := by rw [up_ne (by omega), up_ne (by omega), up_ne (by omega), up_ne (by omega), up_eq]
          have kB : up (up (up (up (up (up (up M2 0 1 w2') 0 2 w1') (M 0 3).toNat 0 0) 35 0 0) 0 8 0) 41 4 0) 129 0 0 35 0 = 0 := by rw [up_ne (by omega), up_ne (by omega), up_ne (by omega), up_eq]
          have k08 : up (up (up (up (up (up (up M2 0 1 w2') 0 2 w1') (M 0 3).toNat 0 0) 35 0 0) 0 8 0) 41 4 0) 129 0 0 0 8 = 0 := by rw [up_ne (by omega), up_ne (by omega), up_eq]
          have kc : up (up (up (up (up (up (up M2 0 1 w2') 0 2 w1') (M 0 3).toNat 0 0) 35 0 0) 0 8 0) 41 4 0) 129 0 0 41 4 = 0 := by rw [up_ne (by omega), up_eq]
          have kh : up (up (up (up (up (up (up M2 0 1 w2') 0 2 w1') (M 0 3).toNat 0 0) 35 0 0) 0 8 0) 41 4 0) 129 0 0 129 0 = 0 := up_eq
          have kf : ∀ u v, ¬ (u = 0 ∧ (v = 1 ∨ v = 2 ∨ v = 8)) → ¬ (25 ≤ u ∧ u ≤ 35) → ¬ (u = 41 ∧ v = 4) → ¬ (u = 129 ∧ v = 0) → up (up (up (up (up (up (up M2 0 1 w2') 0 2 w1') (M 0 3).toNat 0 0) 35 0 0) 0 8 0) 41 4 0) 129 0 0 u v = M2 u v := fun u v a b c d => by rw [up_ne (by omega), up_ne (by omega), up_ne (by omega), up_ne (by omega), up_ne (by omega), up_ne (by omega), up_ne (by omega)]
          have ok0 : ∀ v, ¬ (v = 1 ∨ v = 2 ∨ v = 8) → up (up (up (up (up (up (up M2 0 1 w2') 0 2 w1') (M 0 3).toNat 0 0) 35 0 0) 0 8 0) 41 4 0) 129 0 0 0 v = M 0 v := fun v hv => (kf 0 v (by omega) (by omega) (by omega) (by omega)).trans (fr 0 v (by omega) (by omega))
          generalize up (up (up (up (up (up (up M2 0 1 w2') 0 2 w1') (M 0 3).toNat 0 0) 35 0 0) 0 8 0) 41 4 0) 129 0 0 = M9 at k01 k02 kL kB k08 kc kh kf ok0
          rw [k01, u2]
          refine an (pl_ob p2.1) ?_
          have sh : SameH (up (up Rz.1 10 5 0) 10 6 0) Rz.1 := ⟨fun u v h => by rw [up_ne (by omega), up_ne (by omega)], fun v h => by rw [up_ne (by omega), up_ne (by omega)]⟩
          have pr9 : PlanRel M9 (M 0 2).toNat Rz.1 := p2.2.1.kept (fun u v a b => kf u v (by omega) (by omega) (by omega) (by omega))
          have a5 : up (up Rz.1 10 5 0) 10 6 0 10 5 = 0 := by rw [up_ne (by omega), up_eq]
          have a6 : up (up Rz.1 10 5 0) 10 6 0 10 6 = 0 := up_eq
          have c7 : up (tpA s.2.1 (-1)) 10 7 0 10 7 = 0 := up_eq
          have tu : ∀ u v, ¬ (u = 10 ∧ (v = 7 ∨ v = 8 ∨ v = 9)) → up (tpA s.2.1 (-1)) 10 7 0 u v = s.2.1 u v := fun u v h => by rw [up_ne (by omega), tp_a _ _ _ _ (by omega)]
          have tz : ∀ v, (v = 8 ∨ v = 9) → up (tpA s.2.1 (-1)) 10 7 0 10 v = tpA s.2.1 (-1) 10 v := fun v h => up_ne (by omega)
          refine c_st ea ⟨⟨by rw [k01, u2]; omega, by rw [ok0 3 (by omega)]; exact l3, by rw [k01, u2]; exact pr9.same sh, ?_, p2.2.2.same sh, ?_⟩, by rw [k01, k02, u1, u2]; omega, by rw [ok0 3 (by omega), ok0 4 (by omega)]; exact lpk, ⟨?_, ?_⟩, ⟨⟨?_, fun i hi => ?_⟩, ?_, fun i hi => ?_⟩, ⟨⟨?_, fun i hi => ?_⟩, ?_, ?_, fun i hi => ?_⟩, ⟨?_, ?_⟩, fun y => absurd kc y, fun y => absurd kh y⟩ (fun u v hu => (kf u v (by omega) (by omega) (by omega) (by omega)).trans (fr u v (by omega) (by omega))) ?_ hQ
          · show LoanRel M9 (M9 0 3).toNat _ 11 (up (up Rz.1 10 5 0) 10 6 0 10 5)
            rw [a5, ok0 3 (by omega)]
            exact ⟨kL, fun i hi => by simp at hi⟩
          · show LoanOK _ 11 (up (up Rz.1 10 5 0) 10 6 0 10 5)
            rw [a5]
            exact ⟨by decide, fun i hi => by simp at hi⟩
          · show BalRel M9 35 _ 15 (up (up Rz.1 10 5 0) 10 6 0 10 6)
            rw [a6]
            exact ⟨kB, fun i hi => by simp at hi⟩
          · show VoteOK _ 15 (up (up Rz.1 10 5 0) 10 6 0 10 6)
            rw [a6]
            exact ⟨by decide, fun i hi => by simp at hi⟩
          · show 0 ≤ up (tpA s.2.1 (-1)) 10 7 0 10 7 ∧ up (tpA s.2.1 (-1)) 10 7 0 10 7 ≤ 3
            rw [c7]; decide
          · have hi : i < (up (tpA s.2.1 (-1)) 10 7 0 10 7).toNat := hi
            rw [c7] at hi; simp at hi
          · show M9 0 8 = up (tpA s.2.1 (-1)) 10 7 0 10 7
            rw [c7, k08]
          · have hi : i < (up (tpA s.2.1 (-1)) 10 7 0 10 7).toNat := hi
            rw [c7] at hi; simp at hi
          · show 0 ≤ up (tpA s.2.1 (-1)) 10 7 0 10 8 ∧ up (tpA s.2.1 (-1)) 10 7 0 10 8 ≤ 600
            rw [tz 8 (by omega), tp_8]; decide
          · show 0 ≤ up (tpA s.2.1 (-1)) 10 7 0 18 i ∧ up (tpA s.2.1 (-1)) 10 7 0 18 i < 256
            rw [tu _ _ (by omega)]; exact tok.2 i hi
          · show M9 1 1 = up (tpA s.2.1 (-1)) 10 7 0 10 8
            rw [tz 8 (by omega), tp_8, kf _ _ (by omega) (by omega) (by omega) (by omega)]; exact e21
          · show M9 1 6 = up (tpA s.2.1 (-1)) 10 7 0 10 9
            rw [tz 9 (by omega), tp_9, kf _ _ (by omega) (by omega) (by omega) (by omega)]; exact w6
          · show M9 2 i = w8 (up (tpA s.2.1 (-1)) 10 7 0 18 i)
            rw [tu _ _ (by omega), kf _ _ (by omega) (by omega) (by omega) (by omega), fr _ _ (by omega) (by omega)]; exact tB i hi
          · show M9 0 16 = up (tpA s.2.1 (-1)) 10 7 0 10 10
            rw [tu _ _ (by omega), ok0 _ (by omega)]; exact hM.2.2.2.2.2.2.1.1
          · show M9 0 17 = up (tpA s.2.1 (-1)) 10 7 0 10 11
            rw [tu _ _ (by omega), ok0 _ (by omega)]; exact hM.2.2.2.2.2.2.1.2
          · exact pr9.1
        · have z : ¬ Rz.2.2.2.1 = 0 := fun z => g (w5.trans z)
          have ea := ea.trans (if_pos z)
          refine c_st ea (hM.spare (fun u v a b c => fr u v (by omega) b) e21 w6 (fun i hi => fr _ _ (by omega) (by omega))) (fun u v hu => fr u v (by omega) (by omega)) ?_ hQ
          show f_sub (M2 1 5) 10 = _
          rw [w5]
      · exact R_X10_hall_21 R (an o0 ⟨rfl, fun z => absurd rfl z, fun _ => c_no (Q := Q) hM 2 (by decide) (no2 c2) (CF.rf M) hQ⟩)
    exact ⟨Nat.le_of_ble_eq_true rfl, R_X10_hall_0 R (br (fun (g2 : n < 0) => R_X10_hall_20 R (atB 0 (Or.inr ⟨rfl, by omega⟩))) (fun (g2 : ¬ (n < 0)) => an o0 (an o1 (br (fun (g1 : M 1 1 < n) => R_X10_hall_20 R (atB 0 (Or.inr ⟨rfl, by omega⟩))) (fun (g1 : ¬ (M 1 1 < n)) => atB 1 (Or.inl ⟨rfl, by omega⟩))))))⟩
  · exact h.elim
theorem P_X10_lend {J : JT} {Q : QT} (R : R_X10_lend J Q) {as : List Vl} {M : Mem} (h : F_X10_lend as M Q) : (enL as).length ≤ 3 ∧ J 0 (padL 3 (enL as)) [] M := by
  unfold F_X10_lend at h
  split at h
  · rename_i k n
    obtain ⟨rfl, s, hM, hQ⟩ := h
    have hpl := hM.pl
    have hk := hpl.1
    have hp := hpl.2.1
    have ho := hpl.2.2
    have t11 : M 1 1 = s.2.1 10 8 := hM.2.2.2.2.2.1.2.1
    have no2 : ¬ (0 ≤ n ∧ n ≤ s.2.1 10 8 ∧ n ≤ 300) → an_lend n s = nay s 2 := fun c => if_pos c
    have ea : (0 ≤ n ∧ n ≤ s.2.1 10 8 ∧ n ≤ 300) → an_lend n s = _ := fun c2 => if_neg (fun z => z c2)
    have atB : ∀ b : Int, (b = 1 ∧ (0 ≤ n ∧ n ≤ s.2.1 10 8 ∧ n ≤ 300)) ∨ (b = 0 ∧ ¬ (0 ≤ n ∧ n ≤ s.2.1 10 8 ∧ n ≤ 300)) → J 28 [some (vR 0), some (vI n), none] [vI b, vR 0] M := by
      intro b hb
      rcases hb with ⟨rfl, c2⟩ | ⟨rfl, c2⟩
      · refine R_X10_lend_28 R (an o0 ⟨rfl, fun _ => ?_, fun z => absurd z (by decide)⟩)
        have ea := ea c2
        obtain ⟨tok, tt1, tt3, tB⟩ := hM.2.2.2.2.2.1
        have tb := tok.1
        have spk := hM.2.1
        have lpk := hM.2.2.1
        refine an o0 (an o1 ⟨fun i => s.2.1 18 i, ⟨rfl, c2.1, by omega⟩, fun i hi => ⟨tB i hi, tok.2 i hi⟩, fun M1 f1 e1 ts1 => ?_⟩)
        have s1 : M1 0 1 = M 0 1 := f1 _ _ (by omega)
        have s4 : M1 0 4 = M 0 4 := f1 _ _ (by omega)
        have la : LoanAt (M1 0 4).toNat := by rw [s4]; rcases lpk with q | q <;> rw [q.2] <;> simp [LoanAt]
        have p1 : PL M1 (M1 0 1).toNat s.1 := by rw [s1]; exact ⟨hpl.1, hp.kept (fun u v a b => f1 u v (by omega)), ho⟩
        refine an o0 (an o0 (an o0 (an (lo_ob la) ⟨s.1, fun i => s.2.1 18 i, n.toNat, (0, 0, 0, -1), rfl, ⟨⟨by rw [s4]; omega, by rw [s1]; omega⟩, p1⟩, ts1, fun M2 f2 p2 ts2 => ?_⟩)))
        rw [s4] at f2
        rw [s1, s4] at p2
        have fpq := ll_fp (B := fun i => s.2.1 18 i) (e := n.toNat) (n := 21) (x := (up s.1 10 5 0, (0, 0, 0, -1)))
        have lin : ∀ u v, ¬ (11 ≤ u ∧ u ≤ 14) → ¬ (u = 10 ∧ v = 5) → (llR s n).1 u v = s.1 u v := fun u v a b => (ll_in (B := fun i => s.2.1 18 i) (e := n.toNat) (n := 21) (x := (up s.1 10 5 0, (0, 0, 0, -1))) u v a b).trans (up_ne b)
        change LoSt M2 _ _ (llR s n).1 at p2
        change TSs M2 _ _ (llR s n).2 at ts2
        change (llR s n).2.2.2.1 = 0 → _ ∧ (llR s n).2.2.2.2 = -1 at fpq
        generalize llR s n = Rz at ea p2 ts2 fpq lin
        obtain ⟨-, -, -, w5, w6, -, -, -, -⟩ := ts2
        have fr : ∀ u v, ¬ (u = 1 ∧ 1 ≤ v ∧ v ≤ 6) → ¬ ((M 0 4).toNat ≤ u ∧ u ≤ (M 0 4).toNat + 4) → M2 u v = M u v := fun u v a b => (f2 u v b (by omega)).trans (f1 u v a)
        have e21 : M2 1 1 = 0 := (f2 1 1 (by omega) (by omega)).trans e1
        have h2 : Cls M2 (s.1, tpA s.2.1 Rz.2.2.2.2, s.2.2) := hM.spare (fun u v a b c => fr u v (by omega) c) e21 w6 (fun i hi => fr _ _ (by omega) (by omega))
        have sh : SameH Rz.1 s.1 := ⟨fun u v h => lin u v (by omega) (by omega), fun v h => lin 10 v (by omega) (by omega)⟩
        refine an o0 (an o1 ⟨rfl, br (fun g => bt (by decide) (R_X10_lend_75 R ?_)) (fun g => bf (by decide) (an o0 (an o1 ?_)))⟩)
        · have z : Rz.2.2.2.1 = 0 := w5.symm.trans g
          have ea := ea.trans (if_neg (fun y => y z))
          rw [(fpq z).2] at h2
          have x3 : M2 0 3 = M 0 3 := fr _ _ (by omega) (by omega)
          have x4 : M2 0 4 = M 0 4 := fr _ _ (by omega) (by omega)
          have x1 : M2 0 1 = M 0 1 := fr _ _ (by omega) (by omega)
          refine an o0 (an o0 (an o0 (an ?_ (an o0 (an ?_ (an o0 ⟨rfl, an o0 ?_⟩))))))
          · show (M2 0 4).toNat < 337
            rw [x4]; omega
          · show (M2 0 3).toNat < 337
            rw [x3]; omega
          have u3 : (((M2 0 3).toNat : Nat) : Int).toNat = (M 0 3).toNat := by rw [Int.toNat_natCast, x3]
          have u4 : (((M2 0 4).toNat : Nat) : Int).toNat = (M 0 4).toNat := by rw [Int.toNat_natCast, x4]
          show OB (up (up (up (up M2 0 3 (((M2 0 4).toNat : Nat) : Int)) 0 4 (((M2 0 3).toNat : Nat) : Int)) 41 4 0) 129 0 0 0 3).toNat 5 ∧ Q (.inl (some (vI (up (up (up (up M2 0 3 (((M2 0 4).toNat : Nat) : Int)) 0 4 (((M2 0 3).toNat : Nat) : Int)) 41 4 0) 129 0 0 (up (up (up (up M2 0 3 (((M2 0 4).toNat : Nat) : Int)) 0 4 (((M2 0 3).toNat : Nat) : Int)) 41 4 0) 129 0 0 0 3).toNat 0)))) _
          generalize (((M2 0 3).toNat : Nat) : Int) = w3' at u3
          generalize (((M2 0 4).toNat : Nat) : Int) = w4' at u4
          have k03 : up (up (up (up M2 0 3 w4') 0 4 w3') 41 4 0) 129 0 0 0 3 = w4' := by rw [up_ne (by omega), up_ne (by omega), up_ne (by omega), up_eq]
          have k04 : up (up (up (up M2 0 3 w4') 0 4 w3') 41 4 0) 129 0 0 0 4 = w3' := by rw [up_ne (by omega), up_ne (by omega), up_eq]
          have kc : up (up (up (up M2 0 3 w4') 0 4 w3') 41 4 0) 129 0 0 41 4 = 0 := by rw [up_ne (by omega), up_eq]
          have kh : up (up (up (up M2 0 3 w4') 0 4 w3') 41 4 0) 129 0 0 129 0 = 0 := up_eq
          have kf : ∀ u v, ¬ (u = 0 ∧ (v = 3 ∨ v = 4)) → ¬ (u = 41 ∧ v = 4) → ¬ (u = 129 ∧ v = 0) → up (up (up (up M2 0 3 w4') 0 4 w3') 41 4 0) 129 0 0 u v = M2 u v := fun u v a b c => by rw [up_ne (by omega), up_ne (by omega), up_ne (by omega), up_ne (by omega)]
          generalize up (up (up (up M2 0 3 w4') 0 4 w3') 41 4 0) 129 0 0 = M9 at k03 k04 kc kh kf
          rw [k03, u4]
          obtain ⟨-, q1, q2, q3⟩ := p2
          have la2 : LoanAt (M 0 4).toNat := by rw [← s4]; exact la
          have lr9 : LoanRel M9 (M 0 4).toNat Rz.1 11 (Rz.1 10 5) := q2.kept (fun u v a b => kf u v (by omega) (by omega) (by omega))
          have r6 : Rz.1 10 6 = s.1 10 6 := lin _ _ (by omega) (by omega)
          refine an (lo_ob la2) (c_st ea (h2.new (B := Rz.1) sh ⟨by rw [kf 0 1 (by omega) (by omega) (by omega), x1]; exact hM.1.1, by rw [k03, u4]; omega, ?_, by rw [k03, u4]; exact lr9, q1.2.2, q3⟩ (fun v hv => kf 0 v (by omega) (by omega) (by omega)) (by rw [k03, k04, u3, u4]; omega) ?_ ?_ (fun u v hu => kf u v (by omega) (by omega) (by omega)) kc kh) (fun u v hu => (kf u v (by omega) (by omega) (by omega)).trans (fr u v (by omega) (by omega))) lr9.1 hQ)
          · rw [kf 0 1 (by omega) (by omega) (by omega), x1]
            exact q1.2.1.kept (fun u v a b => kf u v (by omega) (by omega) (by omega))
          · rw [r6]
            obtain ⟨b1, b2⟩ := hM.2.2.2.1.1
            refine ⟨by rw [kf _ _ (by omega) (by omega) (by omega), fr _ _ (by omega) (by omega)]; exact b1, fun i hi => ?_⟩
            rw [kf _ _ (by omega) (by omega) (by omega), kf _ _ (by omega) (by omega) (by omega), kf _ _ (by omega) (by omega) (by omega), fr _ _ (by omega) (by omega), fr _ _ (by omega) (by omega), fr _ _ (by omega) (by omega), lin _ _ (by omega) (by omega), lin _ _ (by omega) (by omega), lin _ _ (by omega) (by omega)]
            exact b2 i hi
          · rw [r6]
            exact hM.2.2.2.1.2.same sh (fun u v a b => lin u v (by omega) (by omega))
        · have z : ¬ Rz.2.2.2.1 = 0 := fun z => g (w5.trans z)
          have ea := ea.trans (if_pos z)
          refine c_st ea h2 (fun u v hu => fr u v (by omega) (by omega)) ?_ hQ
          show f_sub (M2 1 5) 10 = _
          rw [w5]
      · exact R_X10_lend_28 R (an o0 ⟨rfl, fun z => absurd rfl z, fun _ => c_no (Q := Q) hM 2 (by decide) (no2 c2) (CF.rf M) hQ⟩)
    exact ⟨Nat.le_of_ble_eq_true rfl, R_X10_lend_0 R (br (fun (g3 : n < 0) => R_X10_lend_27 R (atB 0 (Or.inr ⟨rfl, by omega⟩))) (fun (g3 : ¬ (n < 0)) => an o0 (an o1 (br (fun (g2 : M 1 1 < n) => R_X10_lend_27 R (atB 0 (Or.inr ⟨rfl, by omega⟩))) (fun (g2 : ¬ (M 1 1 < n)) => br (fun (g1 : 300 < n) => R_X10_lend_27 R (atB 0 (Or.inr ⟨rfl, by omega⟩))) (fun (g1 : ¬ (300 < n)) => atB 1 (Or.inl ⟨rfl, by omega⟩)))))))⟩

  · exact h.elim