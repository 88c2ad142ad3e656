theorem ChrRel.kept2 {M M' Ab : Mem} (h : ChrRel M Ab) (e : ∀ u v, 3 ≤ u → u < 69 → M' u v = M u v) : ChrRel M' Ab := by
  obtain ⟨h0, h1, h2, h3, h4, h5⟩ := h
  have q0 := h0.2.1
  have q1 := h0.2.2.1
  refine ⟨?_, fun m t a b => by rw [e _ _ (by omega) (by omega)]; exact h1 m t a b, fun m t a b => by rw [e _ _ (by omega) (by omega)]; exact h2 m t a b, fun k l s a b c => by rw [e _ _ (by omega) (by omega)]; exact h3 k l s a b c, fun t a => by rw [e _ _ (by omega) (by omega)]; exact h4 t a, fun t a => by rw [e _ _ (by omega) (by omega)]; exact h5 t a⟩
  obtain ⟨s1, s2, s3, s4, s5, s6, s7⟩ := h0
  have e0 := e 42 0 (by omega) (by omega)
  have e1 := e 42 1 (by omega) (by omega)
  exact ⟨s1, by rw [e0]; exact s2, by rw [e1]; exact s3, by rw [e0]; exact s4.kept (fun u v a b => e u v (by omega) (by omega)), by rw [e1]; exact s5.kept (fun u v a b => e u v (by omega) (by omega)), s6, s7⟩
theorem CuK.kept {M M' Ab : Mem} (h : CuK M Ab) (e : ∀ u v, 3 ≤ u → u < 69 → M' u v = M u v) (e1 : M' 0 1 = M 0 1) (e3 : M' 0 3 = M 0 3) : CuK M' Ab := by
  obtain ⟨q1, q2, q3⟩ := h
  exact ⟨q1.kept2 e, by rw [e _ _ (by omega) (by omega), e1]; exact q2, by rw [e _ _ (by omega) (by omega), e3]; exact q3⟩
theorem HolRel.kept {M M' Ab : Mem} (h : HolRel M Ab) (e : ∀ v, M' 129 v = M 129 v) : HolRel M' Ab := by
  unfold HolRel at h ⊢
  rw [e, e, e, e]
  exact h
theorem PlanRel.same {M A B : Mem} {k : Nat} (h : PlanRel M k A) (sh : SameH B A) : PlanRel M k B := by
  obtain ⟨n1, n2, n3, n4⟩ := sh.n
  obtain ⟨a1, a2, a3, a4, a5, a6, a7, a8, a9⟩ := h
  refine ⟨by rw [sh.2 1 (by omega)]; exact a1, by rw [sh.2 2 (by omega)]; exact a2, by rw [sh.2 3 (by omega)]; exact a3, by rw [sh.2 4 (by omega)]; exact a4, by rw [sh.2 0 (by omega)]; exact a5, fun p hp => ?_, fun p hp => ?_, fun p hp => ?_, fun p hp => ?_⟩
  · rw [n1] at hp; rw [sh.1 4 p (by omega), sh.1 5 p (by omega)]; exact a6 p hp
  · rw [n2] at hp; rw [sh.1 0 p (by omega), sh.1 1 p (by omega), sh.1 2 p (by omega), sh.1 3 p (by omega)]; exact a7 p hp
  · rw [n3] at hp; rw [sh.1 6 p (by omega)]; exact a8 p hp
  · rw [n4] at hp; rw [sh.1 7 p (by omega), sh.1 8 p (by omega), sh.1 9 p (by omega)]; exact a9 p hp
theorem LoanRel.copy {M M' : Mem} {k j : Nat} {Ab : Mem} {b : Nat} {n : Int} (h : LoanRel M j Ab b n) (hn : n ≤ 20) (e0 : M' k 0 = M j 0) (e : ∀ c v, 1 ≤ c → c ≤ 4 → v < 20 → M' (k + c) v = M (j + c) v) : LoanRel M' k Ab b n := by
  refine ⟨e0.trans h.1, fun i hi => ?_⟩
  rw [e 1 i (by omega) (by omega) (by omega), e 2 i (by omega) (by omega) (by omega), e 3 i (by omega) (by omega) (by omega), e 4 i (by omega) (by omega) (by omega)]
  exact h.2 i hi
theorem BalRel.copy {M M' : Mem} {k j : Nat} {Ab : Mem} {b : Nat} {n : Int} (h : BalRel M j Ab b n) (hn : n ≤ 9) (e0 : M' k 0 = M j 0) (e : ∀ c v, 1 ≤ c → c ≤ 3 → v < 9 → M' (k + c) v = M (j + c) v) : BalRel M' k Ab b n := by
  refine ⟨e0.trans h.1, fun i hi => ?_⟩
  rw [e 1 i (by omega) (by omega) (by omega), e 2 i (by omega) (by omega) (by omega), e 3 i (by omega) (by omega) (by omega)]
  exact h.2 i hi
theorem Cls.hol {M M' : Mem} {s : AS} (h : Cls M s) (e : ∀ u v, (u < 129 ∨ 131 < u) → M' u v = M u v) (hr : HolRel M' s.1) : Cls M' s := by
  obtain ⟨c1, c2, c3, ⟨b1, b2⟩, ⟨i1, i2, i3⟩, ⟨t1, t2, t3, t4⟩, ⟨r1, r2⟩, k1, k2⟩ := h
  have n3 : nI3 s ≤ 3 := by have := i1.1; unfold nI3; omega
  exact ⟨c1.kept (fun u v a _ _ => e u v (by omega)), by rw [e _ _ (by omega), e _ _ (by omega)]; exact c2, by rw [e _ _ (by omega), e _ _ (by omega)]; exact c3, ⟨b1.kept (fun u v a b => e u v (by omega)), b2⟩, ⟨i1, by rw [e _ _ (by omega)]; exact i2, fun i hi => ⟨(i3 i hi).1.kept (fun u v a b => e u v (by omega)), (i3 i hi).2.kept (fun u v a b => e u v (by omega))⟩⟩, ⟨t1, by rw [e _ _ (by omega)]; exact t2, by rw [e _ _ (by omega)]; exact t3, fun i hi => by rw [e _ _ (by omega)]; exact t4 i hi⟩, ⟨by rw [e _ _ (by omega)]; exact r1, by rw [e _ _ (by omega)]; exact r2⟩, fun z => (k1 (by rw [e _ _ (by omega)] at z; exact z)).kept (fun u v a b => e u v (by omega)) (e _ _ (by omega)) (e _ _ (by omega)), fun _ => hr⟩
/-- other images -/
theorem Cls.im {M M' : Mem} {s : AS} {Ac : Mem} {im : Nat → Mem} (h : Cls M s) (e : ∀ u v, u < 132 → ¬ (u = 0 ∧ v = 8) → M' u v = M u v) (ea : ∀ u v, ¬ (u = 10 ∧ v = 7) → Ac u v = s.2.1 u v) (hi : ImOK (s.1, Ac, im)) (h8 : M' 0 8 = Ac 10 7) (hr : ∀ i, i < (Ac 10 7).toNat → LoanRel M' (132 + 9 * i) (im i) 11 (im i 10 5) ∧ BalRel M' (137 + 9 * i) (im i) 15 (im i 10 6)) : Cls M' (s.1, Ac, im) := by
  obtain ⟨c1, c2, c3, ⟨b1, b2⟩, -, ⟨⟨t0, t1⟩, t2, t3, t4⟩, ⟨r1, r2⟩, k1, k2⟩ := h
  refine ⟨c1.kept (fun u v a b _ => e u v (by omega) (by omega)), by rw [e _ _ (by omega) (by omega), e _ _ (by omega) (by omega)]; exact c2, by rw [e _ _ (by omega) (by omega), e _ _ (by omega) (by omega)]; exact c3, ⟨b1.kept (fun u v a b => e u v (by omega) (by omega)), b2⟩, ⟨hi, h8, hr⟩, ⟨⟨?_, fun i hi => ?_⟩, ?_, ?_, fun i hi => ?_⟩, ⟨?_, ?_⟩, fun z => (k1 (by rw [e _ _ (by omega) (by omega)] at z; exact z)).kept (fun u v a b => e u v (by omega) (by omega)) (e _ _ (by omega) (by omega)) (e _ _ (by omega) (by omega)), fun z => (k2 (by rw [e _ _ (by omega) (by omega)] at z; exact z)).kept (fun v => e _ _ (by omega) (by omega))⟩
  · show 0 ≤ Ac 10 8 ∧ Ac 10 8 ≤ 600
    rw [ea _ _ (by omega)]; exact t0
  · show 0 ≤ Ac 18 i ∧ Ac 18 i < 256
    rw [ea _ _ (by omega)]; exact t1 i hi
  · show _ = Ac 10 8
    rw [ea _ _ (by omega), e _ _ (by omega) (by omega)]; exact t2
  · show _ = Ac 10 9
    rw [ea _ _ (by omega), e _ _ (by omega) (by omega)]; exact t3
  · show _ = w8 (Ac 18 i)
    rw [ea _ _ (by omega), e _ _ (by omega) (by omega)]; exact t4 i hi
  · show _ = Ac 10 10
    rw [ea _ _ (by omega), e _ _ (by omega) (by omega)]; exact r1
  · show _ = Ac 10 11
    rw [ea _ _ (by omega), e _ _ (by omega) (by omega)]; exact r2
/-- another tape -/
theorem Cls.tp {M M' : Mem} {s : AS} {Ac : Mem} (h : Cls M s) (e : ∀ u v, ¬ (1 ≤ u ∧ u ≤ 2) → M' u v = M u v) (ea : ∀ v, ¬ (v = 8 ∨ v = 9) → Ac 10 v = s.2.1 10 v) (t1 : TaOK (s.1, Ac, s.2.2)) (t2 : M' 1 1 = Ac 10 8) (t3 : M' 1 6 = Ac 10 9) (t4 : ∀ i, i < 600 → M' 2 i = w8 (Ac 18 i)) : Cls M' (s.1, Ac, s.2.2) := by
  obtain ⟨c1, c2, c3, ⟨b1, b2⟩, ⟨⟨i0, i1⟩, i2, i3⟩, -, ⟨r1, r2⟩, k1, k2⟩ := h
  have n3 : nI3 s ≤ 3 := by unfold nI3; omega
  have en : nI3 (s.1, Ac, s.2.2) = nI3 s := by show (Ac 10 7).toNat = _; rw [ea _ (by omega)]; rfl
  refine ⟨c1.kept (fun u v a b c => e u v (by omega)), by rw [e _ _ (by omega), e _ _ (by omega)]; exact c2, by rw [e _ _ (by omega), e _ _ (by omega)]; exact c3, ⟨b1.kept (fun u v a b => e u v (by omega)), b2⟩, ⟨⟨?_, fun i hi => ?_⟩, ?_, fun i hi => ?_⟩, ⟨t1, t2, t3, t4⟩, ⟨?_, ?_⟩, fun z => (k1 (by rw [e _ _ (by omega)] at z; exact z)).kept (fun u v a b => e u v (by omega)) (e _ _ (by omega)) (e _ _ (by omega)), fun z => (k2 (by rw [e _ _ (by omega)] at z; exact z)).kept (fun v => e _ _ (by omega))⟩
  · show 0 ≤ Ac 10 7 ∧ Ac 10 7 ≤ 3
    rw [ea _ (by omega)]; exact i0
  · rw [en] at hi
    exact i1 i hi
  · show _ = Ac 10 7
    rw [ea _ (by omega), e _ _ (by omega)]; exact i2
  · rw [en] at hi
    exact ⟨(i3 i hi).1.kept (fun u v a b => e u v (by omega)), (i3 i hi).2.kept (fun u v a b => e u v (by omega))⟩
  · show _ = Ac 10 10
    rw [ea _ (by omega), e _ _ (by omega)]; exact r1
  · show _ = Ac 10 11
    rw [ea _ (by omega), e _ _ (by omega)]; exact r2
theorem sh39 : SH 39 = (7, 3, 132, 9) := rfl
theorem sh40 : SH 40 = (8, 3, 137, 9) := rfl
def F_X10_hollow : FT := fun as M Q => match as with
  | [.inr (.inl k), .inl w] => k = 0 ∧ cS (an_hollow w) M Q
  | _ => False
def G_X10_image : FN := fun as M Q => match as with
  | [.inr (.inl k)] => k = 0 ∧ cN an_image M Q
  | _ => False
def G_X10_restore : FN := fun as M Q => match as with
  | [.inr (.inl k)] => k = 0 ∧ cN an_restore M Q
  | _ => False
def b_X10_hollow_0 : List AT := [tx_al 0, tx_il 1, tx_ifz r_lt 14, tx_il 1, tx_ic 4, tx_cmp r_gt 14, tx_ic 1, tx_fall 15]
def b_X10_hollow_14 : List AT := [tx_ic 0, tx_fall 15]
def b_X10_hollow_15 : List AT := [tx_callv 10 F_X10_needArgument 1, tx_al 0, tx_gr 10 129, tx_gi 4 0, tx_ifz r_ne 43, tx_al 0, tx_gr 10 129, tx_al 0, tx_gm 10 1, tx_al 0, tx_gr 10 35, tx_callv 4 (nf G_X4_find) 2, tx_fall 43]
def b_X10_hollow_43 : List AT := [tx_il 1, tx_sw [(0, 76), (1, 84), (2, 106), (3, 138)] 163]
def b_X10_hollow_76 : List AT := [tx_al 0, tx_gr 10 129, tx_gi 4 1, tx_ri]
def b_X10_hollow_84 : List AT := [tx_al 0, tx_gr 10 129, tx_gi 4 1, tx_ifz r_ne 98, tx_ic 0, tx_fall 105]
def b_X10_hollow_98 : List AT := [tx_al 0, tx_gr 10 129, tx_gi 4 2, tx_fall 105]
def b_X10_hollow_105 : List AT := [tx_ri]
def b_X10_hollow_106 : List AT := [tx_al 0, tx_gr 10 129, tx_gi 4 1, tx_ifz r_ne 120, tx_ic 0, tx_fall 137]
def b_X10_hollow_120 : List AT := [tx_al 0, tx_gm 10 1, tx_callv 6 (nf G_X6_allThings) 0, tx_al 0, tx_gr 10 129, tx_gi 4 3, tx_ic (-1), tx_bin xorI, tx_bin andI, tx_fall 137]
def b_X10_hollow_137 : List AT := [tx_ri]
def b_X10_hollow_138 : List AT := [tx_al 0, tx_gr 10 129, tx_gi 4 1, tx_ifz r_ne 152, tx_ic (-1), tx_fall 162]
def b_X10_hollow_152 : List AT := [tx_al 0, tx_gr 10 129, tx_gi 4 4, tx_call (nf G_J6_bitCount_0f7a4) 1, tx_fall 162]
def b_X10_hollow_162 : List AT := [tx_ri]
def b_X10_hollow_163 : List AT := [tx_al 0, tx_gr 10 129, tx_gi 4 1, tx_ifz r_ne 177, tx_ic (-1), tx_fall 184]
def b_X10_hollow_177 : List AT := [tx_al 0, tx_gr 10 129, tx_gi 4 4, tx_fall 184]
def b_X10_hollow_184 : List AT := [tx_ri]
def R_X10_hollow (J : JT) (Q : QT) : Prop := (∀ ls st M, wpl J Q b_X10_hollow_0 ls st M → J 0 ls st M) ∧ (∀ ls st M, wpl J Q b_X10_hollow_14 ls st M → J 14 ls st M) ∧ (∀ ls st M, wpl J Q b_X10_hollow_15 ls st M → J 15 ls st M) ∧ (∀ ls st M, wpl J Q b_X10_hollow_43 ls st M → J 43 ls st M) ∧ (∀ ls st M, wpl J Q b_X10_hollow_76 ls st M → J 76 ls st M) ∧ (∀ ls st M, wpl J Q b_X10_hollow_84 ls st M → J 84 ls st M) ∧ (∀ ls st M, wpl J Q b_X10_hollow_98 ls st M → J 98 ls st M) ∧ (∀ ls st M, wpl J Q b_X10_hollow_105 ls st M → J 105 ls st M) ∧ (∀ ls st M, wpl J Q b_X10_hollow_106 ls st M → J 106 ls st M) ∧ (∀ ls st M, wpl J Q b_X10_hollow_120 ls st M → J 120 ls st M) ∧ (∀ ls st M, wpl J Q b_X10_hollow_137 ls st M → J 137 ls st M) ∧ (∀ ls st M, wpl J Q b_X10_hollow_138 ls st M → J 138 ls st M) ∧ (∀ ls st M, wpl J Q b_X10_hollow_152 ls st M → J 152 ls st M) ∧ (∀ ls st M, wpl J Q b_X10_hollow_162 ls st M → J 162 ls st M) ∧ (∀ ls st M, wpl J Q b_X10_hollow_163 ls st M → J 163 ls st M) ∧ (∀ ls st M, wpl J Q b_X10_hollow_177 ls st M → J 177 ls st M) ∧ (∀ ls st M, wpl J Q b_X10_hollow_184 ls st M → J 184 ls st M)
theorem R_X10_hollow_0 {J : JT} {Q : QT} (R : R_X10_hollow J Q) {ls : Ls} {st : St} {M : Mem} (h : wpl J Q b_X10_hollow_0 ls st M) : J 0 ls st M := R.1 ls st M h
theorem R_X10_hollow_14 {J : JT} {Q : QT} (R : R_X10_hollow J Q) {ls : Ls} {st : St} {M : Mem} (h : wpl J Q b_X10_hollow_14 ls st M) : J 14 ls st M := R.2.1 ls st M h
theorem R_X10_hollow_15 {J : JT} {Q : QT} (R : R_X10_hollow J Q) {ls : Ls} {st : St} {M : Mem} (h : wpl J Q b_X10_hollow_15 ls st M) : J 15 ls st M := R.2.2.1 ls st M h
theorem R_X10_hollow_43 {J : JT} {Q : QT} (R : R_X10_hollow J Q) {ls : Ls} {st : St} {M : Mem} (h : wpl J Q b_X10_hollow_43 ls st M) : J 43 ls st M := R.2.2.2.1 ls st M h
theorem R_X10_hollow_76 {J : JT} {Q : QT} (R : R_X10_hollow J Q) {ls : Ls} {st : St} {M : Mem} (h : wpl J Q b_X10_hollow_76 ls st M) : J 76 ls st M := R.2.2.2.2.1 ls st M h
theorem R_X10_hollow_84 {J : JT} {Q : QT} (R : R_X10_hollow J Q) {ls : Ls} {st : St} {M : Mem} (h : wpl J Q b_X10_hollow_84 ls st M) : J 84 ls st M := R.2.2.2.2.2.1 ls st M h
theorem R_X10_hollow_98 {J : JT} {Q : QT} (R : R_X10_hollow J Q) {ls : Ls} {st : St} {M : Mem} (h : wpl J Q b_X10_hollow_98 ls st M) : J 98 ls st M := R.2.2.2.2.2.2.1 ls st M h
theorem R_X10_hollow_105 {J : JT} {Q : QT} (R : R_X10_hollow J Q) {ls : Ls} {st : St} {M : Mem} (h : wpl J Q b_X10_hollow_105 ls st M) : J 105 ls st M := R.2.2.2.2.2.2.2.1 ls st M h
theorem R_X10_hollow_106 {J : JT} {Q : QT} (R : R_X10_hollow J Q) {ls : Ls} {st : St} {M : Mem} (h : wpl J Q b_X10_hollow_106 ls st M) : J 106 ls st M := R.2.2.2.2.2.2.2.2.1 ls st M h
theorem R_X10_hollow_120 {J : JT} {Q : QT} (R : R_X10_hollow J Q) {ls : Ls} {st : St} {M : Mem} (h : wpl J Q b_X10_hollow_120 ls st M) : J 120 ls st M := R.2.2.2.2.2.2.2.2.2.1 ls st M h
theorem R_X10_hollow_137 {J : JT} {Q : QT} (R : R_X10_hollow J Q) {ls : Ls} {st : St} {M : Mem} (h : wpl J Q b_X10_hollow_137 ls st M) : J 137 ls st M := R.2.2.2.2.2.2.2.2.2.2.1 ls st M h
theorem R_X10_hollow_138 {J : JT} {Q : QT} (R : R_X10_hollow J Q) {ls : Ls} {st : St} {M : Mem} (h : wpl J Q b_X10_hollow_138 ls st M) : J 138 ls st M := R.2.2.2.2.2.2.2.2.2.2.2.1 ls st M h
theorem R_X10_hollow_152 {J : JT} {Q : QT} (R : R_X10_hollow J Q) {ls : Ls} {st : St} {M : Mem} (h : wpl J Q b_X10_hollow_152 ls st M) : J 152 ls st M := R.2.2.2.2.2.2.2.2.2.2.2.2.1 ls st M h
theorem R_X10_hollow_162 {J : JT} {Q : QT} (R : R_X10_hollow J Q) {ls : Ls} {st : St} {M : Mem} (h : wpl J Q b_X10_hollow_162 ls st M) : J 162 ls st M := R.2.2.2.2.2.2.2.2.2.2.2.2.2.1 ls st M h
theorem R_X10_hollow_163 {J : JT} {Q : QT} (R : R_X10_hollow J Q) {ls : Ls} {st : St} {M : Mem} (h : wpl J Q b_X10_hollow_163 ls st M) : J 163 ls st M := R.2.2.2.2.2.2.2.2.2.2.2.2.2.2.1 ls st M h
theorem R_X10_hollow_177 {J : JT} {Q : QT} (R : R_X10_hollow J Q) {ls : Ls} {st : St} {M : Mem} (h : wpl J Q b_X10_hollow_177 ls st M) : J 177 ls st M := R.2.2.2.2.2.2.2.2.2.2.2.2.2.2.2.1 ls st M h
theorem R_X10_hollow_184 {J : JT} {Q : QT} (R : R_X10_hollow J Q) {ls : Ls} {st : St} {M : Mem} (h : wpl J Q b_X10_hollow_184 ls st M) : J 184 ls st M := R.2.2.2.2.2.2.2.2.2.2.2.2.2.2.2.2 ls st M h
def b_X10_image_0 : List AT := [tx_al 0, tx_gi 10 8, tx_ic 3, tx_cmp r_lt 10, tx_ic (-1), tx_ri]
def b_X10_image_10 : List AT := tx_al 0 :: tx_gr 10 39 :: tx_al 0 :: tx_gi 10 8 :: tx_aa 7 :: tx_al 0 :: tx_gm 10 3 :: tx_callv 5 (nf G_X5_copyFrom) 1 :: tx_al 0 :: tx_gr 10 40 :: tx_al 0 :: tx_gi 10 8 :: tx_aa 8 :: tx_al 0 :: tx_gr 10 35 :: tx_callv 0 (nf G_X0_copyFrom) 1 :: tx_al 0 :: tx_dup :: tx_gi 10 8 :: tx_ic 1 :: tx_bin f_add :: tx_pi 10 8 :: tx_al 0 :: tx_gi 10 8 :: tx_ri :: []
def R_X10_image (J : JT) (Q : QT) : Prop := (∀ ls st M, wpl J Q b_X10_image_0 ls st M → J 0 ls st M) ∧ (∀ ls st M, wpl J Q b_X10_image_10 ls st M → J 10 ls st M)
theorem R_X10_image_0 {J : JT} {Q : QT} (R : R_X10_image J Q) {ls : Ls} {st : St} {M : Mem} (h : wpl J Q b_X10_image_0 ls st M) : J 0 ls st M := R.1 ls st M h
theorem R_X10_image_10 {J : JT} {Q : QT} (R : R_X10_image J Q) {ls : Ls} {st : St} {M : Mem} (h : wpl J Q b_X10_image_10 ls st M) : J 10 ls st M := R.2 ls st M h
def b_X10_restore_0 : List AT := [tx_al 0, tx_gi 10 8, tx_ifz r_gt 9, tx_ic (-1), tx_ri]
def b_X10_restore_9 : List AT := tx_al 0 :: tx_dup :: tx_gi 10 8 :: tx_ic 1 :: tx_bin f_sub :: tx_pi 10 8 :: tx_al 0 :: tx_gm 10 3 :: tx_al 0 :: tx_gr 10 39 :: tx_al 0 :: tx_gi 10 8 :: tx_aa 7 :: tx_callv 5 (nf G_X5_copyFrom) 1 :: tx_al 0 :: tx_gr 10 35 :: tx_al 0 :: tx_gr 10 40 :: tx_al 0 :: tx_gi 10 8 :: tx_aa 8 :: tx_callv 0 (nf G_X0_copyFrom) 1 :: tx_al 0 :: tx_callv 10 (nf G_X10_startAnew) 0 :: tx_al 0 :: tx_gi 10 8 :: tx_ri :: []
def R_X10_restore (J : JT) (Q : QT) : Prop := (∀ ls st M, wpl J Q b_X10_restore_0 ls st M → J 0 ls st M) ∧ (∀ ls st M, wpl J Q b_X10_restore_9 ls st M → J 9 ls st M)
theorem R_X10_restore_0 {J : JT} {Q : QT} (R : R_X10_restore J Q) {ls : Ls} {st : St} {M : Mem} (h : wpl J Q b_X10_restore_0 ls st M) : J 0 ls st M := R.1 ls st M h
theorem R_X10_restore_9 {J : JT} {Q : QT} (R : R_X10_restore J Q) {ls : Ls} {st : St} {M : Mem} (h : wpl J Q b_X10_restore_9 ls st M) : J 9 ls st M := R.2 ls st M h
theorem P_X10_hollow {J : JT} {Q : QT} (R : R_X10_hollow J Q) {as : List Vl} {M : Mem} (h : F_X10_hollow as M Q) : (enL as).length ≤ 2 ∧ J 0 (padL 2 (enL as)) [] M := by
  unfold F_X10_hollow at h
  split at h
  · rename_i k w
    obtain ⟨rfl, s, hM, hQ⟩ := h
    have hpl := hM.pl
    have hk := hpl.1
    have hp := hpl.2.1
    have ho := hpl.2.2
    have no2 : ¬ (0 ≤ w ∧ w ≤ 4) → an_hollow w s = nay s 2 := fun c => if_pos c
    have ea : (0 ≤ w ∧ w ≤ 4) → an_hollow w s = _ := fun c2 => if_neg (fun z => z c2)
    have atB : ∀ b : Int, (b = 1 ∧ (0 ≤ w ∧ w ≤ 4)) ∨ (b = 0 ∧ ¬ (0 ≤ w ∧ w ≤ 4)) → J 15 [some (vR 0), some (vI w)] [vI b, vR 0] M := by
      intro b hb
      rcases hb with ⟨rfl, c2⟩ | ⟨rfl, c2⟩
      · refine R_X10_hollow_15 R (an o0 ⟨rfl, fun _ => ?_, fun z => absurd z (by decide)⟩)
        have ea := ea c2
        have nb := hN_hB s.1 (2 ^ nT s.1)
        have bb := hB_bd s.1 (2 ^ nT s.1)
        obtain ⟨n1, n2⟩ := nT_le ho
        have b14 := p14 n1
        have fin0 : ∀ (M2 : Mem) (v : Int), Cls M2 s → CF M M2 → v = _ → Q (.inl (some (vI v))) M2 := fun M2 v h2 cf hv => c_yes ea h2 cf hv hQ
        generalize hV : (if w = 0 then hN s.1 (2 ^ nT s.1) else if hN s.1 (2 ^ nT s.1) = 0 then (if w ≤ 2 then 0 else -1) else if w = 1 then ((hA s.1 (2 ^ nT s.1) : Nat) : Int) else if w = 2 then andI (((2 ^ nT s.1 : Nat) : Int) - 1) (xorI ((hY s.1 (2 ^ nT s.1) : Nat) : Int) (-1)) else if w = 3 then ((popc (hB s.1 (2 ^ nT s.1)).toNat : Nat) : Int) else hB s.1 (2 ^ nT s.1)) = V at fin0
        have at43 : ∀ M2 : Mem, Cls M2 s → CF M M2 → HolRel M2 s.1 → J 43 [some (vR 0), some (vI w)] [] M2 := by
          intro M2 h2 cf hr
          obtain ⟨r1, r2, r3, r4⟩ := hr
          have fin : ∀ v : Int, v = V → Q (.inl (some (vI v))) M2 := fun v hv => fin0 M2 v h2 cf hv
          have l105 : ∀ v : Int, v = V → J 105 [some (vR 0), some (vI w)] [vI v] M2 := fun v hv => R_X10_hollow_105 R (fin v hv)
          have l137 : ∀ v : Int, v = V → J 137 [some (vR 0), some (vI w)] [vI v] M2 := fun v hv => R_X10_hollow_137 R (fin v hv)
          have l162 : ∀ v : Int, v = V → J 162 [some (vR 0), some (vI w)] [vI v] M2 := fun v hv => R_X10_hollow_162 R (fin v hv)
          have l184 : ∀ v : Int, v = V → J 184 [some (vR 0), some (vI w)] [vI v] M2 := fun v hv => R_X10_hollow_184 R (fin v hv)
          have hk2 := h2.pl
          have some' : ¬ M2 129 1 = 0 → ¬ hN s.1 (2 ^ nT s.1) = 0 ∧ M2 129 4 = hB s.1 (2 ^ nT s.1) ∧ 0 ≤ hB s.1 (2 ^ nT s.1) ∧ hB s.1 (2 ^ nT s.1) < 16384 := fun n => by
            rw [r1] at n
            have n2 : ¬ hB s.1 (2 ^ nT s.1) = -1 := fun z => n (nb.mpr z)
            exact ⟨n, r4 n2, by omega, by omega⟩
          have none' : ¬ ¬ M2 129 1 = 0 → hN s.1 (2 ^ nT s.1) = 0 := fun n => r1.symm.trans (Classical.not_not.mp n)
          refine R_X10_hollow_43 R (br (fun (g0 : w = 0) => R_X10_hollow_76 R (an o0 (an o129 (fin _ ?_)))) (fun (g0 : ¬ w = 0) => br (fun (g1 : w = 1) => R_X10_hollow_84 R (an o0 (an o129 (br (fun n => R_X10_hollow_98 R (an o0 (an o129 (l105 _ ?_)))) (fun n => l105 0 ?_))))) (fun (g1 : ¬ w = 1) => br (fun (g2 : w = 2) => R_X10_hollow_106 R (an o0 (an o129 (br (fun n => R_X10_hollow_120 R (an o0 (an (pl_ob hk2.1) ⟨s.1, hk2, an o0 (an o129 (l137 _ ?_))⟩))) (fun n => l137 0 ?_))))) (fun (g2 : ¬ w = 2) => br (fun (g3 : w = 3) => R_X10_hollow_138 R (an o0 (an o129 (br (fun n => R_X10_hollow_152 R (an o0 (an o129 ⟨?_, l162 _ ?_⟩))) (fun n => l162 (-1) ?_))))) (fun (g3 : ¬ w = 3) => R_X10_hollow_163 R (an o0 (an o129 (br (fun n => R_X10_hollow_177 R (an o0 (an o129 (l184 _ ?_)))) (fun n => l184 (-1) ?_)))))))))
          · rw [← hV, if_pos g0]; exact r1
          · rw [← hV, if_neg g0, if_neg (some' n).1, if_pos g1]; exact r2
          · rw [← hV, if_neg g0, if_pos (none' n), if_pos (by omega)]
          · rw [← hV, if_neg g0, if_neg (some' n).1, if_neg g1, if_pos g2]
            show andI _ (xorI (M2 129 3) (-1)) = _
            rw [r3]
          · rw [← hV, if_neg g0, if_pos (none' n), if_pos (by omega)]
          · show 0 ≤ M2 129 4 ∧ M2 129 4 < 16384
            rw [(some' n).2.1]; exact (some' n).2.2
          · rw [← hV, if_neg g0, if_neg (some' n).1, if_neg g1, if_neg g2, if_pos g3]
            show ((popc (M2 129 4).toNat : Nat) : Int) = _
            rw [(some' n).2.1]
          · rw [← hV, if_neg g0, if_pos (none' n), if_neg (by omega)]
          · rw [← hV, if_neg g0, if_neg (some' n).1, if_neg g1, if_neg g2, if_neg g3]
            exact (some' n).2.1
          · rw [← hV, if_neg g0, if_pos (none' n), if_neg (by omega)]
        exact an o0 (an o129 (br (fun n => at43 M hM (CF.rf M) (hM.2.2.2.2.2.2.2.2 n)) (fun n => an o0 (an o0 (an o0 (an o129 ⟨s.1, ⟨rfl, rfl⟩, hpl, hM.2.2.2.1.1, hM.2.2.2.1.2, fun M2 f2 kn hr => at43 M2 (hM.hol f2 hr) (fun u v hu => f2 u v (by omega)) hr⟩))))))
      · exact R_X10_hollow_15 R (an o0 ⟨rfl, fun z => absurd rfl z, fun _ => c_no (Q := Q) hM 2 (by decide) (no2 c2) (CF.rf M) hQ⟩)
    exact ⟨Nat.le_of_ble_eq_true rfl, R_X10_hollow_0 R (br (fun (g2 : w < 0) => R_X10_hollow_14 R (atB 0 (Or.inr ⟨rfl, by omega⟩))) (fun (g2 : ¬ (w < 0)) => br (fun (g1 : 4 < w) => R_X10_hollow_14 R (atB 0 (Or.inr ⟨rfl, by omega⟩))) (fun (g1 : ¬ (4 < w)) => atB 1 (Or.inl ⟨rfl, by omega⟩))))⟩
  · exact h.elim
theorem P_X10_image {J : JT} {Q : QT} (R : R_X10_image J Q) {as : List Vl} {M : Mem} (h : nf G_X10_image as M Q) : (enL as).length ≤ 1 ∧ J 0 (padL 1 (enL as)) [] M := by
  unfold nf G_X10_image at h
  split at h
  · rename_i k
    obtain ⟨rfl, s, hM, hQ⟩ := h
    obtain ⟨i0, i1⟩ := hM.2.2.2.2.1.1
    have i2 := hM.2.2.2.2.1.2.1
    have i3 := hM.2.2.2.2.1.2.2
    refine ⟨Nat.le_of_ble_eq_true rfl, R_X10_image_0 R (an o0 (br (fun z => R_X10_image_10 R ?_) (fun z => ?_)))⟩
    · have z : M 0 8 < 3 := z
      have ea : an_image s = _ := if_neg (show ¬ 3 ≤ s.2.1 10 7 by omega)
      rw [ea] at hQ
      have en : (M 0 8).toNat = nI3 s := by rw [i2]; rfl
      have n3 : nI3 s < 3 := by omega
      have la : LoanAt (132 + 9 * nI3 s) := by unfold LoanAt; omega
      have ba : BalAt (137 + 9 * nI3 s) := by unfold BalAt; omega
      refine an o0 (an o0 (an (ak_of sh39 (by omega) (by omega)) (an o0 ?_)))
      show OB (132 + 9 * (M 0 8).toNat) 5 ∧ nf G_X5_copyFrom [.inr (.inl (132 + 9 * (M 0 8).toNat)), .inr (.inl (M 0 3).toNat)] M _
      rw [en]
      refine an (lo_ob la) ⟨⟨la, hM.lo, by have := hM.1.2.1; omega⟩, fun M1 f1 n1 a1 => ?_⟩
      have e8 : M1 0 8 = M 0 8 := f1 0 8 (by omega)
      refine an o0 (an o0 (an (ak_of sh40 (by omega) (by omega)) (an o0 ?_)))
      show OB (137 + 9 * (M1 0 8).toNat) 0 ∧ nf G_X0_copyFrom [.inr (.inl (137 + 9 * (M1 0 8).toNat)), .inr (.inl 35)] M1 _
      rw [e8, en]
      refine an (ba_ob ba) ⟨⟨ba, Or.inl rfl, by omega⟩, fun M2 f2 n2 a2 => an o0 (an o0 (an o0 ?_))⟩
      have e9 : M2 0 8 = s.2.1 10 7 := (f2 0 8 (by omega)).trans (e8.trans i2)
      have ef : f_add (M2 0 8) 1 = s.2.1 10 7 + 1 := by rw [e9]; exact w1 (by omega) (by omega) rfl
      show Q (.inl (some (vI (up M2 0 8 (f_add (M2 0 8) 1) 0 8)))) (up M2 0 8 (f_add (M2 0 8) 1))
      rw [ef, up_eq]
      have fr : ∀ u v, ¬ (u = 0 ∧ v = 8) → (u < 132 + 9 * nI3 s ∨ 140 + 9 * nI3 s < u) → up M2 0 8 (s.2.1 10 7 + 1) u v = M u v := fun u v h1 h2 => by rw [up_ne h1, f2 u v (by omega), f1 u v (by omega)]
      have c7 : (up s.2.1 10 7 (s.2.1 10 7 + 1) 10 7).toNat = nI3 s + 1 := by rw [up_eq]; unfold nI3; omega
      refine hQ _ (fun u v hu => fr u v (by omega) (by omega)) (hM.im (fun u v a b => fr u v b (by omega)) (fun u v a => up_ne (by omega)) ⟨?_, fun i hi => ?_⟩ ?_ (fun i hi => ?_))
      · show 0 ≤ up s.2.1 10 7 (s.2.1 10 7 + 1) 10 7 ∧ up s.2.1 10 7 (s.2.1 10 7 + 1) 10 7 ≤ 3
        rw [up_eq]; omega
      · have hi : i < (up s.2.1 10 7 (s.2.1 10 7 + 1) 10 7).toNat := hi
        rw [c7] at hi
        show SameH (if i = nI3 s then s.1 else s.2.2 i) s.1 ∧ LoanOK (if i = nI3 s then s.1 else s.2.2 i) 11 ((if i = nI3 s then s.1 else s.2.2 i) 10 5) ∧ VoteOK (if i = nI3 s then s.1 else s.2.2 i) 15 ((if i = nI3 s then s.1 else s.2.2 i) 10 6)
        by_cases q : i = nI3 s
        · rw [if_pos q]
          exact ⟨⟨fun _ _ _ => rfl, fun _ _ => rfl⟩, hM.1.2.2.2.2.2, hM.2.2.2.1.2⟩
        · rw [if_neg q]
          exact i1 i (by omega)
      · rw [up_eq, up_eq]
      · rw [c7] at hi
        by_cases q : i = nI3 s
        · subst q
          show LoanRel _ _ (if nI3 s = nI3 s then s.1 else s.2.2 (nI3 s)) 11 ((if nI3 s = nI3 s then s.1 else s.2.2 (nI3 s)) 10 5) ∧ BalRel _ _ (if nI3 s = nI3 s then s.1 else s.2.2 (nI3 s)) 15 ((if nI3 s = nI3 s then s.1 else s.2.2 (nI3 s)) 10 6)
          rw [if_pos rfl]
          have l := hM.1.2.2.2.1
          have c3 := hM.1.2.1
          refine ⟨l.copy hM.1.2.2.2.2.2.1.2 ?_ (fun c v h1 h2 h3 => ?_), hM.2.2.2.1.1.copy hM.2.2.2.1.2.1.2 ?_ (fun c v h1 h2 h3 => ?_)⟩
          · rw [up_ne (by omega), f2 _ _ (by omega)]; exact n1
          · rw [up_ne (by omega), f2 _ _ (by omega)]; exact a1 c v h1 h2 h3
          · rw [up_ne (by omega), n2]; exact f1 _ _ (by omega)
          · rw [up_ne (by omega), a2 c v h1 h2 h3]; exact f1 _ _ (by omega)
        · show LoanRel _ _ (if i = nI3 s then s.1 else s.2.2 i) 11 ((if i = nI3 s then s.1 else s.2.2 i) 10 5) ∧ BalRel _ _ (if i = nI3 s then s.1 else s.2.2 i) 15 ((if i = nI3 s then s.1 else s.2.2 i) 10 6)
          rw [if_neg q]
          have hi' : i < nI3 s := by omega
          exact ⟨(i3 i hi').1.kept (fun u v a b => fr u v (by omega) (by omega)), (i3 i hi').2.kept (fun u v a b => fr u v (by omega) (by omega))⟩
    · have z : ¬ M 0 8 < 3 := z
      have ea : an_image s = yea s (-1) := if_pos (show 3 ≤ s.2.1 10 7 by omega)
      rw [ea] at hQ
      exact hQ M (CF.rf M) hM
  · exact h.elim
theorem P_X10_restore {J : JT} {Q : QT} (R : R_X10_restore J Q) {as : List Vl} {M : Mem} (h : nf G_X10_restore as M Q) : (enL as).length ≤ 1 ∧ J 0 (padL 1 (enL as)) [] M := by
  unfold nf G_X10_restore at h
  split at h
  · rename_i k
    obtain ⟨rfl, s, hM, hQ⟩ := h
    obtain ⟨i0, i1⟩ := hM.2.2.2.2.1.1
    have i2 := hM.2.2.2.2.1.2.1
    have i3 := hM.2.2.2.2.1.2.2
    have lk := hM.1.2.1
    refine ⟨Nat.le_of_ble_eq_true rfl, R_X10_restore_0 R (an o0 (br (fun z => R_X10_restore_9 R ?_) (fun z => ?_)))⟩
    · have z : 0 < M 0 8 := z
      have ea : an_restore s = _ := if_neg (show ¬ s.2.1 10 7 ≤ 0 by omega)
      rw [ea] at hQ
      obtain ⟨n, hn⟩ : ∃ n : Nat, s.2.1 10 7 = ((n + 1 : Nat) : Int) := ⟨(s.2.1 10 7 - 1).toNat, by omega⟩
      have n1 : nI3 s = n + 1 := by unfold nI3; omega
      have n3 : n < 3 := by omega
      have la : LoanAt (132 + 9 * n) := by unfold LoanAt; omega
      have ba : BalAt (137 + 9 * n) := by unfold BalAt; omega
      have ef : f_sub (M 0 8) 1 = (n : Int) := by rw [i2, hn]; exact w1 (by omega) (by omega) (by omega)
      have es : s.2.1 10 7 - 1 = (n : Int) := by omega
      rw [n1, es] at hQ
      have hQ : ∀ M' : Mem, CF M M' → Cls M' (s.2.2 n, up s.2.1 10 7 (n : Int), s.2.2) → Q (.inl (some (vI (n : Int)))) M' := hQ
      refine an o0 (an o0 ?_)
      show wpl J Q _ _ _ (up M 0 8 (f_sub (M 0 8) 1))
      rw [ef]
      have j8 : up M 0 8 (n : Int) 0 8 = (n : Int) := up_eq
      have fr1 : ∀ u v, ¬ (u = 0 ∧ v = 8) → up M 0 8 (n : Int) u v = M u v := fun u v h => up_ne h
      have h1 : Cls (up M 0 8 (n : Int)) (s.1, up s.2.1 10 7 (n : Int), s.2.2) := hM.im (fun u v a b => fr1 u v b) (fun u v a => up_ne (by omega)) ⟨by
        show 0 ≤ up s.2.1 10 7 (n : Int) 10 7 ∧ up s.2.1 10 7 (n : Int) 10 7 ≤ 3
        rw [up_eq]; omega, fun i hi => by
        have hi : i < (up s.2.1 10 7 (n : Int) 10 7).toNat := hi
        rw [up_eq] at hi
        exact i1 i (by omega)⟩ (j8.trans up_eq.symm) (fun i hi => by
        rw [up_eq] at hi
        exact ⟨(i3 i (by omega)).1.kept (fun u v a b => fr1 u v (by omega)), (i3 i (by omega)).2.kept (fun u v a b => fr1 u v (by omega))⟩)
      have g3 := i3 n (by omega)
      have g1 := i1 n (by omega)
      have gl := g3.1.kept (M' := up M 0 8 (n : Int)) (fun u v a b => fr1 u v (by omega))
      have gb := g3.2.kept (M' := up M 0 8 (n : Int)) (fun u v a b => fr1 u v (by omega))
      have cf1 : CF M (up M 0 8 (n : Int)) := fun u v hu => fr1 u v (by omega)
      generalize up M 0 8 (n : Int) = M1 at j8 h1 gl gb cf1
      clear fr1
      have lk := h1.1.2.1
      refine an o0 (an o0 (an o0 (an (ak_of sh39 (by omega) (by omega)) ?_)))
      show OB (M1 0 3).toNat 5 ∧ nf G_X5_copyFrom [.inr (.inl (M1 0 3).toNat), .inr (.inl (132 + 9 * (M1 0 8).toNat))] M1 _
      rw [j8, Int.toNat_natCast]
      refine an (lo_ob h1.lo) ⟨⟨h1.lo, la, by omega⟩, fun M2 f2 n2 a2 => ?_⟩
      have e8 : M2 0 8 = (n : Int) := (f2 0 8 (by omega)).trans j8
      refine an o0 (an o0 (an o0 (an (ak_of sh40 (by omega) (by omega)) ?_)))
      show OB 35 0 ∧ nf G_X0_copyFrom [.inr (.inl 35), .inr (.inl (137 + 9 * (M2 0 8).toNat))] M2 _
      rw [e8, Int.toNat_natCast]
      refine an o35 ⟨⟨Or.inl rfl, ba, by omega⟩, fun M3 f3 n3' a3 => an o0 ⟨rfl, an o0 ?_⟩⟩
      have fr : ∀ u v, ¬ (u = 41 ∧ v = 4) → ¬ (u = 129 ∧ v = 0) → (u < (M1 0 3).toNat ∨ ((M1 0 3).toNat + 4 < u ∧ u < 35) ∨ 38 < u) → up (up M3 41 4 0) 129 0 0 u v = M1 u v := fun u v h1 h2 h3 => by rw [up_ne (by omega), up_ne (by omega), f3 u v (by omega), f2 u v (by omega)]
      have r8 : up (up M3 41 4 0) 129 0 0 0 8 = (n : Int) := (fr 0 8 (by omega) (by omega) (by omega)).trans j8
      show Q (.inl (some (vI (up (up M3 41 4 0) 129 0 0 0 8)))) _
      rw [r8]
      obtain ⟨c1, c2, c3, c4, c5, c6⟩ := h1.1
      have r1 : up (up M3 41 4 0) 129 0 0 0 1 = M1 0 1 := fr 0 1 (by omega) (by omega) (by omega)
      have r3 : up (up M3 41 4 0) 129 0 0 0 3 = M1 0 3 := fr 0 3 (by omega) (by omega) (by omega)
      have r4 : up (up M3 41 4 0) 129 0 0 0 4 = M1 0 4 := fr 0 4 (by omega) (by omega) (by omega)
      refine hQ _ (fun u v hu => (fr u v (by omega) (by omega) (by omega)).trans (cf1 u v hu)) (h1.new (B := s.2.2 n) g1.1 ⟨by rw [r1]; exact c1, by rw [r3]; exact c2, ?_, ?_, c5.same g1.1, g1.2.1⟩ (fun v hv => fr 0 v (by omega) (by omega) (by omega)) ?_ ?_ g1.2.2 (fun u v hu => fr u v (by omega) (by omega) (by omega)) ?_ ?_)
      · rw [r1]
        exact (c3.kept (fun u v a b => fr u v (by omega) (by omega) (by omega))).same g1.1
      · rw [r3]
        refine gl.copy g1.2.1.1.2 ?_ (fun c v h1 h2 h3 => ?_)
        · rw [up_ne (by omega), up_ne (by omega), f3 _ _ (by omega)]; exact n2
        · rw [up_ne (by omega), up_ne (by omega), f3 _ _ (by omega)]; exact a2 c v h1 h2 h3
      · rw [r3, r4]; exact h1.2.2.1
      · refine gb.copy g1.2.2.1.2 ?_ (fun c v h1 h2 h3 => ?_)
        · rw [up_ne (by omega), up_ne (by omega), n3']; exact f2 _ _ (by omega)
        · rw [up_ne (by omega), up_ne (by omega), a3 c v h1 h2 h3]; exact f2 _ _ (by omega)
      · rw [up_ne (by omega), up_eq]
      · rw [up_eq]
    · have z : ¬ 0 < M 0 8 := z
      have ea : an_restore s = yea s (-1) := if_pos (show s.2.1 10 7 ≤ 0 by omega)
      rw [ea] at hQ
      exact hQ M (CF.rf M) hM

  · exact h.elim