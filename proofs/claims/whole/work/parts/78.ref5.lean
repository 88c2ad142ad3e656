
theorem SameH.rf (A : Mem) : SameH A A := ⟨fun _ _ _ => rfl, fun _ _ => rfl⟩
theorem SameH.tr {A B C : Mem} (h1 : SameH A B) (h2 : SameH B C) : SameH A C := ⟨fun u v h => (h1.1 u v h).trans (h2.1 u v h), fun v h => (h1.2 v h).trans (h2.2 v h)⟩
theorem SameH.up {A : Mem} {u v : Nat} {x : Int} (h : 10 < u ∨ (u = 10 ∧ 4 < v)) : SameH (up A u v x) A := ⟨fun a b q => up_ne (by omega), fun b q => up_ne (by omega)⟩
theorem SameH.n {A B : Mem} (e : SameH A B) : nP A = nP B ∧ nT A = nT B ∧ nD A = nD B ∧ nM A = nM B := by
  unfold nP nT nD nM
  rw [e.2 1 (by omega), e.2 2 (by omega), e.2 3 (by omega), e.2 4 (by omega)]
  exact ⟨rfl, rfl, rfl, rfl⟩
theorem HallOK.same {A B : Mem} (h : HallOK A) (e : SameH B A) : HallOK B := by
  obtain ⟨n1, n2, n3, n4⟩ := e.n
  obtain ⟨h1, h2, h3, h4, h5, h6, h7, h8, h9⟩ := h
  refine ⟨by rw [e.2 _ (by omega)]; exact h1, by rw [e.2 _ (by omega)]; exact h2, by rw [e.2 _ (by omega)]; exact h3, by rw [e.2 _ (by omega)]; exact h4, by rw [e.2 _ (by omega)]; exact h5, fun p hp => ?_, fun p hp => ?_, fun p hp => ?_, fun p hp => ?_⟩
  · rw [n1] at hp; rw [e.1 _ _ (by omega), e.1 _ _ (by omega)]; exact h6 p hp
  · rw [n2] at hp; rw [e.1 0 p (by omega), e.1 1 p (by omega), e.1 2 p (by omega), e.1 3 p (by omega), e.2 1 (by omega), e.2 3 (by omega)]; exact h7 p hp
  · rw [n3] at hp; rw [e.1 _ _ (by omega)]; exact h8 p hp
  · rw [n4] at hp; rw [n1, e.1 _ _ (by omega), e.1 _ _ (by omega), e.1 _ _ (by omega)]; exact h9 p hp
theorem MdP.same {M A B : Mem} (h : MdP M A) (e : SameH B A) : MdP M B := by
  obtain ⟨n1, n2, n3, n4⟩ := e.n
  obtain ⟨ho, a, b, c, d, f⟩ := h
  refine ⟨ho.same e, by rw [e.2 _ (by omega), e.2 _ (by omega), e.2 _ (by omega), e.2 _ (by omega), e.2 _ (by omega)]; exact a, fun p hp => ?_, fun p hp => ?_, fun p hp => ?_, fun p hp => ?_⟩
  · rw [n1] at hp; rw [e.1 _ _ (by omega), e.1 _ _ (by omega)]; exact b p hp
  · rw [n2] at hp; rw [e.1 _ _ (by omega), e.1 _ _ (by omega), e.1 _ _ (by omega), e.1 _ _ (by omega)]; exact c p hp
  · rw [n3] at hp; rw [e.1 _ _ (by omega)]; exact d p hp
  · rw [n4] at hp; rw [e.1 _ _ (by omega), e.1 _ _ (by omega), e.1 _ _ (by omega)]; exact f p hp
theorem LoanOK.same {A B : Mem} {n : Int} (h : LoanOK A 11 n) (e : SameH B A) (el : ∀ u v, 11 ≤ u → u ≤ 14 → B u v = A u v) : LoanOK B 11 n := by
  refine ⟨h.1, fun i hi => ?_⟩
  have := h.2 i hi
  rw [el 11 i (by omega) (by omega), el (11 + 1) i (by omega) (by omega), el (11 + 2) i (by omega) (by omega), el (11 + 3) i (by omega) (by omega), e.2 2 (by omega), e.2 1 (by omega), e.1 0 _ (by omega)]
  exact this
theorem MdL.same {M A B : Mem} (h : MdL M A) (e : SameH B A) (e5 : B 10 5 = A 10 5) (el : ∀ u v, 11 ≤ u → u ≤ 14 → B u v = A u v) : MdL M B := by
  obtain ⟨h1, h2, h3⟩ := h
  refine ⟨by rw [e5]; exact h1.same e el, by rw [e5]; exact h2, fun i hi => ?_⟩
  have en : nL B = nL A := by unfold nL; rw [e5]
  rw [en] at hi
  rw [el _ _ (by omega) (by omega), el _ _ (by omega) (by omega), el _ _ (by omega) (by omega), el _ _ (by omega) (by omega)]
  exact h3 i hi
theorem VoteOK.same {A B : Mem} {n : Int} (h : VoteOK A 15 n) (e : SameH B A) (el : ∀ u v, 15 ≤ u → u ≤ 17 → B u v = A u v) : VoteOK B 15 n := by
  refine ⟨h.1, fun i hi => ?_⟩
  have := h.2 i hi
  rw [el _ _ (by omega) (by omega), el _ _ (by omega) (by omega), el _ _ (by omega) (by omega), e.n.1]
  exact this
theorem ImOK.same {s : AS} (h : ImOK s) {B : Mem} (e : SameH B s.1) : ImOK (B, s.2.1, s.2.2) := ⟨h.1, fun i hi => ⟨(h.2 i hi).1.tr ⟨fun u v q => (e.1 u v q).symm, fun v q => (e.2 v q).symm⟩, (h.2 i hi).2⟩⟩
/-- the state with other votes or lendings -/
theorem Mdl.ab {M M' : Mem} {s : AS} {B : Mem} (h : Mdl M s) (e : SameH B s.1) (hl : MdL M' B) (hv : MdV M' B) (k : ∀ u v, RC u v → ¬ (u = 159 ∧ (v = 22 ∨ v = 23)) → ¬ (256 ≤ u ∧ u ≤ 275) → ¬ (279 ≤ u ∧ u ≤ 287) → M' u v = M u v) (b : 0 ≤ M' 159 37 ∧ M' 159 37 ≤ 1000) : Mdl M' (B, s.2.1, s.2.2) := by
  obtain ⟨⟨ho, ⟨a0, a1, a2, a3, a4⟩, h1, h2, h3, h4⟩, -, -, ⟨i1, i2, i3⟩, ⟨t1, t2, t3, t4⟩, ⟨r1, r2⟩, w1', w2⟩ := h
  have p1 := (nP_le ho).1
  have t9 := (nT_le ho).1
  have m1 := (nM_le ho).1
  have i9 : nI3 s ≤ 3 := by have := i1.1; unfold nI3; omega
  have e3 : ∀ v, M' 163 v = M 163 v := fun v => k _ _ (by unfold RC; omega) (by omega) (by omega) (by omega)
  have e9 : ∀ v, (v = 1 ∨ v = 3 ∨ v = 24 ∨ v = 35) → M' 159 v = M 159 v := fun v hv => k _ _ (by unfold RC; omega) (by omega) (by omega) (by omega)
  have kk : ∀ u v, (u = 160 ∨ u = 161 ∨ (176 ≤ u ∧ u ≤ 185) ∨ (202 ≤ u ∧ u ≤ 215) ∨ (226 ≤ u ∧ u ≤ 233) ∨ u = 277 ∨ (288 ≤ u ∧ u ≤ 291)) → M' u v = M u v := fun u v hu => k _ _ (by unfold RC; omega) (by omega) (by omega) (by omega)
  have hp : MdP M' s.1 := by
    refine ⟨ho, ⟨by rw [e3]; exact a0, by rw [e3]; exact a1, by rw [e3]; exact a2, by rw [e3]; exact a3, by rw [e3]; exact a4⟩, fun p hp => ?_, fun p hp => ?_, fun p hp => ?_, fun p hp => ?_⟩
    · rw [kk _ _ (by omega), kk _ _ (by omega)]; exact h1 p hp
    · rw [kk _ _ (by omega), kk _ _ (by omega), kk _ _ (by omega), kk _ _ (by omega)]; exact h2 p hp
    · rw [kk _ _ (by omega)]; exact h3 p hp
    · rw [kk _ _ (by omega), kk _ _ (by omega), kk _ _ (by omega)]; exact h4 p hp
  refine ⟨hp.same e, hl, hv, ⟨i1.same e, by rw [e9 _ (by omega)]; exact i2, fun i hi => ?_⟩, ⟨t1, by rw [e9 _ (by omega)]; exact t2, by rw [e9 _ (by omega)]; exact t3, fun i hi => by rw [kk _ _ (by omega)]; exact t4 i hi⟩, ⟨by rw [kk _ _ (by omega)]; exact r1, by rw [kk _ _ (by omega)]; exact r2⟩, by rw [e9 _ (by omega)]; exact w1', b⟩
  have hi : i < nI3 s := hi
  obtain ⟨k1, k2, k3, k4⟩ := i3 i hi
  refine ⟨by rw [kk _ _ (by omega)]; exact k1, by rw [kk _ _ (by omega)]; exact k2, fun j c hj hc => ?_, fun j c hj hc => ?_⟩
  · rw [kk _ _ (by omega)]; exact k3 j c hj hc
  · rw [kk _ _ (by omega)]; exact k4 j c hj hc
def G_X11_thrown : FN := fun as M Q => match as with
  | [.inr (.inl k)] => k = 159 ∧ Q (some (vI (M 159 0))) M
  | _ => False
def G_X11_fault : FN := fun as M Q => match as with
  | [.inr (.inl k)] => k = 159 ∧ mS cd1 an_fault M Q
  | _ => False
def G_X11_status : FN := fun as M Q => match as with
  | [.inr (.inl k), .inl w] => k = 159 ∧ mS cd1 (an_status w) M Q
  | _ => False
def G_X11_count : FN := fun as M Q => match as with
  | [.inr (.inl k), .inl w] => k = 159 ∧ mS cd1 (an_count w) M Q
  | _ => False
def G_X11_forget : FN := fun as M Q => match as with
  | [.inr (.inl k)] => k = 159 ∧ mS cd1 an_forget M Q
  | _ => False
def G_X11_powers : FN := fun as M Q => match as with
  | [.inr (.inl k)] => k = 159 ∧ mS cd1 an_powers M Q
  | _ => False
def G_X11_together : FN := fun as M Q => match as with
  | [.inr (.inl k), .inl i] => k = 159 ∧ mS cd1 (an_together i) M Q
  | _ => False
def b_X11_thrown_0 : List AT := [tx_al 0, tx_gi 11 0, tx_ri]
def R_X11_thrown (J : JT) (Q : QT) : Prop := (∀ ls st M, wpl J Q b_X11_thrown_0 ls st M → J 0 ls st M)
theorem R_X11_thrown_0 {J : JT} {Q : QT} (R : R_X11_thrown J Q) {ls : Ls} {st : St} {M : Mem} (h : wpl J Q b_X11_thrown_0 ls st M) : J 0 ls st M := R ls st M h
def b_X11_fault_0 : List AT := [tx_al 0, tx_ic 0, tx_pi 11 0, tx_al 0, tx_gi 11 3, tx_ri]
def R_X11_fault (J : JT) (Q : QT) : Prop := (∀ ls st M, wpl J Q b_X11_fault_0 ls st M → J 0 ls st M)
theorem R_X11_fault_0 {J : JT} {Q : QT} (R : R_X11_fault J Q) {ls : Ls} {st : St} {M : Mem} (h : wpl J Q b_X11_fault_0 ls st M) : J 0 ls st M := R ls st M h
def b_X11_status_0 : List AT := [tx_al 0, tx_ic 0, tx_pi 11 0, tx_il 1, tx_ic 0, tx_ic 1, tx_call (nf G_X11_in) 3, tx_ifz r_eq 23, tx_al 0, tx_gr 11 2, tx_il 1, tx_ia, tx_fall 24]
def b_X11_status_23 : List AT := [tx_ic (-1), tx_fall 24]
def b_X11_status_24 : List AT := [tx_ri]
def R_X11_status (J : JT) (Q : QT) : Prop := (∀ ls st M, wpl J Q b_X11_status_0 ls st M → J 0 ls st M) ∧ (∀ ls st M, wpl J Q b_X11_status_23 ls st M → J 23 ls st M) ∧ (∀ ls st M, wpl J Q b_X11_status_24 ls st M → J 24 ls st M)
theorem R_X11_status_0 {J : JT} {Q : QT} (R : R_X11_status J Q) {ls : Ls} {st : St} {M : Mem} (h : wpl J Q b_X11_status_0 ls st M) : J 0 ls st M := R.1 ls st M h
theorem R_X11_status_23 {J : JT} {Q : QT} (R : R_X11_status J Q) {ls : Ls} {st : St} {M : Mem} (h : wpl J Q b_X11_status_23 ls st M) : J 23 ls st M := R.2.1 ls st M h
theorem R_X11_status_24 {J : JT} {Q : QT} (R : R_X11_status J Q) {ls : Ls} {st : St} {M : Mem} (h : wpl J Q b_X11_status_24 ls st M) : J 24 ls st M := R.2.2 ls st M h
def b_X11_count_0 : List AT := [tx_al 0, tx_ic 0, tx_pi 11 0, tx_il 1, tx_ifz r_ne 16, tx_al 0, tx_gi 11 23, tx_fall 41]
def b_X11_count_16 : List AT := [tx_il 1, tx_ic 1, tx_cmp r_ne 28, tx_al 0, tx_gi 11 24, tx_fall 41]
def b_X11_count_28 : List AT := [tx_il 1, tx_ic 2, tx_cmp r_ne 40, tx_al 0, tx_gi 11 1, tx_fall 41]
def b_X11_count_40 : List AT := [tx_ic (-1), tx_fall 41]
def b_X11_count_41 : List AT := [tx_ri]
def R_X11_count (J : JT) (Q : QT) : Prop := (∀ ls st M, wpl J Q b_X11_count_0 ls st M → J 0 ls st M) ∧ (∀ ls st M, wpl J Q b_X11_count_16 ls st M → J 16 ls st M) ∧ (∀ ls st M, wpl J Q b_X11_count_28 ls st M → J 28 ls st M) ∧ (∀ ls st M, wpl J Q b_X11_count_40 ls st M → J 40 ls st M) ∧ (∀ ls st M, wpl J Q b_X11_count_41 ls st M → J 41 ls st M)
theorem R_X11_count_0 {J : JT} {Q : QT} (R : R_X11_count J Q) {ls : Ls} {st : St} {M : Mem} (h : wpl J Q b_X11_count_0 ls st M) : J 0 ls st M := R.1 ls st M h
theorem R_X11_count_16 {J : JT} {Q : QT} (R : R_X11_count J Q) {ls : Ls} {st : St} {M : Mem} (h : wpl J Q b_X11_count_16 ls st M) : J 16 ls st M := R.2.1 ls st M h
theorem R_X11_count_28 {J : JT} {Q : QT} (R : R_X11_count J Q) {ls : Ls} {st : St} {M : Mem} (h : wpl J Q b_X11_count_28 ls st M) : J 28 ls st M := R.2.2.1 ls st M h
theorem R_X11_count_40 {J : JT} {Q : QT} (R : R_X11_count J Q) {ls : Ls} {st : St} {M : Mem} (h : wpl J Q b_X11_count_40 ls st M) : J 40 ls st M := R.2.2.2.1 ls st M h
theorem R_X11_count_41 {J : JT} {Q : QT} (R : R_X11_count J Q) {ls : Ls} {st : St} {M : Mem} (h : wpl J Q b_X11_count_41 ls st M) : J 41 ls st M := R.2.2.2.2 ls st M h
def b_X11_forget_0 : List AT := [tx_al 0, tx_ic 0, tx_pi 11 0, tx_al 0, tx_gi 11 23, tx_is 1, tx_al 0, tx_ic 0, tx_pi 11 23, tx_il 1, tx_ri]
def R_X11_forget (J : JT) (Q : QT) : Prop := (∀ ls st M, wpl J Q b_X11_forget_0 ls st M → J 0 ls st M)
theorem R_X11_forget_0 {J : JT} {Q : QT} (R : R_X11_forget J Q) {ls : Ls} {st : St} {M : Mem} (h : wpl J Q b_X11_forget_0 ls st M) : J 0 ls st M := R ls st M h
def b_X11_powers_0 : List AT := [tx_al 0, tx_ic 0, tx_pi 11 0, tx_ic 0, tx_is 1, tx_ic 0, tx_is 2, tx_fall 9]
def b_X11_powers_9 : List AT := [tx_il 2, tx_al 0, tx_gr 11 4, tx_ic 0, tx_ia, tx_cmp r_ge 33, tx_il 1, tx_al 0, tx_il 2, tx_callv 11 (nf G_X11_powerOf) 1, tx_bin f_add, tx_is 1, tx_inc 2 1, tx_fall 9]
def b_X11_powers_33 : List AT := [tx_il 1, tx_ri]
def R_X11_powers (J : JT) (Q : QT) : Prop := (∀ ls st M, wpl J Q b_X11_powers_0 ls st M → J 0 ls st M) ∧ (∀ ls st M, wpl J Q b_X11_powers_9 ls st M → J 9 ls st M) ∧ (∀ ls st M, wpl J Q b_X11_powers_33 ls st M → J 33 ls st M)
theorem R_X11_powers_0 {J : JT} {Q : QT} (R : R_X11_powers J Q) {ls : Ls} {st : St} {M : Mem} (h : wpl J Q b_X11_powers_0 ls st M) : J 0 ls st M := R.1 ls st M h
theorem R_X11_powers_9 {J : JT} {Q : QT} (R : R_X11_powers J Q) {ls : Ls} {st : St} {M : Mem} (h : wpl J Q b_X11_powers_9 ls st M) : J 9 ls st M := R.2.1 ls st M h
theorem R_X11_powers_33 {J : JT} {Q : QT} (R : R_X11_powers J Q) {ls : Ls} {st : St} {M : Mem} (h : wpl J Q b_X11_powers_33 ls st M) : J 33 ls st M := R.2.2 ls st M h
def b_X11_together_0 : List AT := [tx_al 0, tx_ic 0, tx_pi 11 0, tx_ic 0, tx_is 2, tx_ic 0, tx_is 3, tx_fall 9]
def b_X11_together_9 : List AT := [tx_il 3, tx_ic 16, tx_cmp r_ge 97, tx_al 0, tx_il 3, tx_callv 11 (nf G_X11_winsBy) 1, tx_is 4, tx_ic 0, tx_is 5, tx_fall 25]
def b_X11_together_25 : List AT := [tx_il 5, tx_ic 4, tx_cmp r_ge 73, tx_il 4, tx_ifz r_eq 64, tx_il 3, tx_il 5, tx_bin shrI, tx_ic 1, tx_bin andI, tx_ifz r_eq 60, tx_al 0, tx_il 3, tx_ic 1, tx_il 5, tx_bin shlI, tx_ic (-1), tx_bin xorI, tx_bin andI, tx_callv 11 (nf G_X11_winsBy) 1, tx_ifz r_ne 64, tx_fall 60]
def b_X11_together_60 : List AT := [tx_ic 1, tx_fall 65]
def b_X11_together_64 : List AT := [tx_ic 0, tx_fall 65]
def b_X11_together_65 : List AT := [tx_is 4, tx_inc 5 1, tx_fall 25]
def b_X11_together_73 : List AT := [tx_il 4, tx_ifz r_ne 81, tx_fall 91]
def b_X11_together_81 : List AT := [tx_il 2, tx_il 1, tx_cmp r_ne 88, tx_il 3, tx_ri]
def b_X11_together_88 : List AT := [tx_inc 2 1, tx_fall 91]
def b_X11_together_91 : List AT := [tx_inc 3 1, tx_fall 9]
def b_X11_together_97 : List AT := [tx_ic (-1), tx_ri]
def R_X11_together (J : JT) (Q : QT) : Prop := (∀ ls st M, wpl J Q b_X11_together_0 ls st M → J 0 ls st M) ∧ (∀ ls st M, wpl J Q b_X11_together_9 ls st M → J 9 ls st M) ∧ (∀ ls st M, wpl J Q b_X11_together_25 ls st M → J 25 ls st M) ∧ (∀ ls st M, wpl J Q b_X11_together_60 ls st M → J 60 ls st M) ∧ (∀ ls st M, wpl J Q b_X11_together_64 ls st M → J 64 ls st M) ∧ (∀ ls st M, wpl J Q b_X11_together_65 ls st M → J 65 ls st M) ∧ (∀ ls st M, wpl J Q b_X11_together_73 ls st M → J 73 ls st M) ∧ (∀ ls st M, wpl J Q b_X11_together_81 ls st M → J 81 ls st M) ∧ (∀ ls st M, wpl J Q b_X11_together_88 ls st M → J 88 ls st M) ∧ (∀ ls st M, wpl J Q b_X11_together_91 ls st M → J 91 ls st M) ∧ (∀ ls st M, wpl J Q b_X11_together_97 ls st M → J 97 ls st M)
theorem R_X11_together_0 {J : JT} {Q : QT} (R : R_X11_together J Q) {ls : Ls} {st : St} {M : Mem} (h : wpl J Q b_X11_together_0 ls st M) : J 0 ls st M := R.1 ls st M h
theorem R_X11_together_9 {J : JT} {Q : QT} (R : R_X11_together J Q) {ls : Ls} {st : St} {M : Mem} (h : wpl J Q b_X11_together_9 ls st M) : J 9 ls st M := R.2.1 ls st M h
theorem R_X11_together_25 {J : JT} {Q : QT} (R : R_X11_together J Q) {ls : Ls} {st : St} {M : Mem} (h : wpl J Q b_X11_together_25 ls st M) : J 25 ls st M := R.2.2.1 ls st M h
theorem R_X11_together_60 {J : JT} {Q : QT} (R : R_X11_together J Q) {ls : Ls} {st : St} {M : Mem} (h : wpl J Q b_X11_together_60 ls st M) : J 60 ls st M := R.2.2.2.1 ls st M h
theorem R_X11_together_64 {J : JT} {Q : QT} (R : R_X11_together J Q) {ls : Ls} {st : St} {M : Mem} (h : wpl J Q b_X11_together_64 ls st M) : J 64 ls st M := R.2.2.2.2.1 ls st M h
theorem R_X11_together_65 {J : JT} {Q : QT} (R : R_X11_together J Q) {ls : Ls} {st : St} {M : Mem} (h : wpl J Q b_X11_together_65 ls st M) : J 65 ls st M := R.2.2.2.2.2.1 ls st M h
theorem R_X11_together_73 {J : JT} {Q : QT} (R : R_X11_together J Q) {ls : Ls} {st : St} {M : Mem} (h : wpl J Q b_X11_together_73 ls st M) : J 73 ls st M := R.2.2.2.2.2.2.1 ls st M h
theorem R_X11_together_81 {J : JT} {Q : QT} (R : R_X11_together J Q) {ls : Ls} {st : St} {M : Mem} (h : wpl J Q b_X11_together_81 ls st M) : J 81 ls st M := R.2.2.2.2.2.2.2.1 ls st M h
theorem R_X11_together_88 {J : JT} {Q : QT} (R : R_X11_together J Q) {ls : Ls} {st : St} {M : Mem} (h : wpl J Q b_X11_together_88 ls st M) : J 88 ls st M := R.2.2.2.2.2.2.2.2.1 ls st M h
theorem R_X11_together_91 {J : JT} {Q : QT} (R : R_X11_together J Q) {ls : Ls} {st : St} {M : Mem} (h : wpl J Q b_X11_together_91 ls st M) : J 91 ls st M := R.2.2.2.2.2.2.2.2.2.1 ls st M h
theorem R_X11_together_97 {J : JT} {Q : QT} (R : R_X11_together J Q) {ls : Ls} {st : St} {M : Mem} (h : wpl J Q b_X11_together_97 ls st M) : J 97 ls st M := R.2.2.2.2.2.2.2.2.2.2 ls st M h
theorem P_X11_thrown {J : JT} {Q : QT} (R : R_X11_thrown J Q) {as : List Vl} {M : Mem} (h : nf G_X11_thrown as M Q) : (enL as).length ≤ 1 ∧ J 0 (padL 1 (enL as)) [] M := by
  unfold nf G_X11_thrown at h
  split at h
  · rename_i k
    obtain ⟨rfl, h⟩ := h
    exact ⟨Nat.le_of_ble_eq_true rfl, R_X11_thrown_0 R (an o159 h)⟩
  · exact h.elim
theorem P_X11_fault {J : JT} {Q : QT} (R : R_X11_fault J Q) {as : List Vl} {M : Mem} (h : nf G_X11_fault as M Q) : (enL as).length ≤ 1 ∧ J 0 (padL 1 (enL as)) [] M := by
  unfold nf G_X11_fault at h
  split at h
  · rename_i k
    obtain ⟨rfl, s, hM, hQ⟩ := h
    have h1 := hM.t0 0
    exact ⟨Nat.le_of_ble_eq_true rfl, R_X11_fault_0 R (an o159 (an o159 (hQ _ _ (MF.t0 M 0) h1 up_eq (fun _ => h1.2.2.2.2.1.2.2.1))))⟩
  · exact h.elim
theorem P_X11_status {J : JT} {Q : QT} (R : R_X11_status J Q) {as : List Vl} {M : Mem} (h : nf G_X11_status as M Q) : (enL as).length ≤ 2 ∧ J 0 (padL 2 (enL as)) [] M := by
  unfold nf G_X11_status at h
  split at h
  · rename_i k w
    obtain ⟨rfl, s, hM, hQ⟩ := h
    have h1 := hM.t0 0
    have e0 : up M 159 0 0 159 0 = 0 := up_eq
    have mf := MF.t0 M 0
    have rr := h1.2.2.2.2.2.1
    have fin : ∀ v : Int, v = (if w = 0 then s.2.1 10 10 else if w = 1 then s.2.1 10 11 else -1) → J 24 [some (vR 159), some (vI w)] [vI v] (up M 159 0 0) := fun v hv => R_X11_status_24 R (hQ _ v mf h1 e0 (fun _ => hv))
    refine ⟨Nat.le_of_ble_eq_true rfl, R_X11_status_0 R (an o159 (br (fun d => bf (by decide) (an o159 (an (ak_of sh161 d.1 (by omega)) (fin _ ?_)))) (fun d => bt rfl (R_X11_status_23 R (fin _ ?_)))))⟩
    · rcases (show w = 0 ∨ w = 1 by omega) with rfl | rfl
      · rw [if_pos rfl]; exact rr.1
      · rw [if_neg (by decide), if_pos rfl]; exact rr.2
    · rw [if_neg (by omega), if_neg (by omega)]
  · exact h.elim
theorem P_X11_count {J : JT} {Q : QT} (R : R_X11_count J Q) {as : List Vl} {M : Mem} (h : nf G_X11_count as M Q) : (enL as).length ≤ 2 ∧ J 0 (padL 2 (enL as)) [] M := by
  unfold nf G_X11_count at h
  split at h
  · rename_i k w
    obtain ⟨rfl, s, hM, hQ⟩ := h
    have h1 := hM.t0 0
    have e0 : up M 159 0 0 159 0 = 0 := up_eq
    have mf := MF.t0 M 0
    have fin : ∀ v : Int, v = (if w = 0 then s.1 10 6 else if w = 1 then s.2.1 10 7 else if w = 2 then s.2.1 10 8 else -1) → J 41 [some (vR 159), some (vI w)] [vI v] (up M 159 0 0) := fun v hv => R_X11_count_41 R (hQ _ v mf h1 e0 (fun _ => hv))
    refine ⟨Nat.le_of_ble_eq_true rfl, R_X11_count_0 R (an o159 (br (fun g => R_X11_count_16 R (br (fun g2 => R_X11_count_28 R (br (fun g3 => R_X11_count_40 R (fin _ ?_)) (fun g3 => an o159 (fin _ ?_)))) (fun g2 => an o159 (fin _ ?_)))) (fun g => an o159 (fin _ ?_))))⟩
    · rw [if_neg g, if_neg g2, if_neg g3]
    · rw [if_neg g, if_neg g2, if_pos (Classical.not_not.mp g3)]; exact h1.2.2.2.2.1.2.1
    · rw [if_neg g, if_pos (Classical.not_not.mp g2)]; exact h1.2.2.2.1.2.1
    · rw [if_pos (Classical.not_not.mp g)]; exact h1.2.2.1.2.1
  · exact h.elim
theorem P_X11_forget {J : JT} {Q : QT} (R : R_X11_forget J Q) {as : List Vl} {M : Mem} (h : nf G_X11_forget as M Q) : (enL as).length ≤ 2 ∧ J 0 (padL 2 (enL as)) [] M := by
  unfold nf G_X11_forget at h
  split at h
  · rename_i k
    obtain ⟨rfl, s, hM, hQ⟩ := h
    have h1 := hM.t0 0
    have e0 : up M 159 0 0 159 0 = 0 := up_eq
    have mf := MF.t0 M 0
    refine ⟨Nat.le_of_ble_eq_true rfl, R_X11_forget_0 R (an o159 (an o159 (an o159 ?_)))⟩
    show Q _ (up (up M 159 0 0) 159 23 0)
    generalize up M 159 0 0 = M1 at h1 e0 mf
    have f2 : ∀ u v, ¬ (u = 159 ∧ v = 23) → up M1 159 23 0 u v = M1 u v := fun u v hu => up_ne hu
    have sh : SameH (up s.1 10 6 0) s.1 := SameH.up (by omega)
    refine hQ _ _ (mf.tr (fun u v hu => f2 u v (by omega))) (h1.ab sh ?_ ?_ (fun u v a b c d => f2 u v (by omega)) (by rw [f2 _ _ (by omega)]; exact h1.2.2.2.2.2.2.2)) ((f2 _ _ (by omega)).trans e0) (fun _ => h1.2.2.1.2.1)
    · exact (h1.2.1.kept (f2 _ _ (by omega)) (fun u v a b => f2 u v (by omega))).same sh (up_ne (by omega)) (fun u v a b => up_ne (by omega))
    · have e6 : up s.1 10 6 0 10 6 = 0 := up_eq
      refine ⟨by rw [e6]; exact ⟨by decide, fun i hi => absurd hi (Nat.not_lt_zero i)⟩, by rw [e6]; exact up_eq, fun v hv => ?_⟩
      unfold nV at hv
      rw [e6] at hv
      exact absurd hv (Nat.not_lt_zero v)
  · exact h.elim
theorem sw_bd {Ab : Mem} (ho : HallOK Ab) (p : Nat) : 0 ≤ swF Ab p ∧ swF Ab p ≤ 1024 := by
  have h := sumN_bd (f := fun s => if swC Ab p s = true then 1 else 0) (c := 1) (by decide) (n := 2 ^ nP Ab) (fun i _ => by split <;> decide)
  have h2 := p10 (nP_le ho).1
  unfold swF
  omega
theorem P_X11_powers {J : JT} {Q : QT} (R : R_X11_powers J Q) {as : List Vl} {M : Mem} (h : nf G_X11_powers as M Q) : (enL as).length ≤ 3 ∧ J 0 (padL 3 (enL as)) [] M := by
  unfold nf G_X11_powers at h
  split at h
  · rename_i k
    obtain ⟨rfl, s, hM, hQ⟩ := h
    have h1 := hM.t0 0
    have e0 : up M 159 0 0 159 0 = 0 := up_eq
    have mf := MF.t0 M 0
    have ho := h1.1.1
    obtain ⟨p1, p2⟩ := nP_le ho
    refine ⟨Nat.le_of_ble_eq_true rfl, R_X11_powers_0 R (an o159 ?_)⟩
    generalize up M 159 0 0 = M1 at h1 e0 mf
    have key : ∀ i, i ≤ nP s.1 → ∀ (x acc : Int), x = (i : Int) → acc = sumN (swF s.1) i → J 9 [some (vR 159), some (vI acc), some (vI x)] [] M1 := by
      refine dn ?_ ?_
      · intro x acc hx ha
        rw [ha]
        exact R_X11_powers_9 R (an o159 (an (ak_of sh163 (by decide) (by decide)) (bt (show M1 163 0 ≤ x by rw [h1.1.2.1.1]; omega) (R_X11_powers_33 R (hQ M1 _ mf h1 e0 (fun _ => rfl))))))
      · intro i hi ih x acc hx ha
        have hxn : x.toNat = i := by omega
        have b0 := sumN_bd (f := swF s.1) (c := 1024) (by decide) (n := i) (fun j _ => sw_bd ho j)
        have b1 := sw_bd ho i
        refine R_X11_powers_9 R (an o159 (an (ak_of sh163 (by decide) (by decide)) (bf (show ¬ M1 163 0 ≤ x by rw [h1.1.2.1.1]; omega) (an o159 ⟨s.1, ⟨rfl, by omega, by omega⟩, h1.1, ih _ _ (wn hx (by omega)) ?_⟩))))
        rw [hxn, sumN, ha]
        exact w1 (by omega) (by omega) rfl
    exact key 0 (Nat.zero_le _) _ _ rfl rfl
  · exact h.elim
theorem clr16 : ∀ s, s < 16 → ∀ p, p < 4 → s.testBit p = true → andI ((s : Nat) : Int) (xorI (shlI 1 ((p : Nat) : Int)) (-1)) = ((s ^^^ 2 ^ p : Nat) : Int) ∧ s ^^^ 2 ^ p < 16 := by decide +kernel
theorem P_X11_together {J : JT} {Q : QT} (R : R_X11_together J Q) {as : List Vl} {M : Mem} (h : nf G_X11_together as M Q) : (enL as).length ≤ 6 ∧ J 0 (padL 6 (enL as)) [] M := by
  unfold nf G_X11_together at h
  split at h
  · rename_i k i
    obtain ⟨rfl, s, hM, hQ⟩ := h
    have h1 := hM.t0 0
    have e0 : up M 159 0 0 159 0 = 0 := up_eq
    have mf := MF.t0 M 0
    refine ⟨Nat.le_of_ble_eq_true rfl, R_X11_together_0 R (an o159 ?_)⟩
    generalize up M 159 0 0 = M1 at h1 e0 mf
    have hQ' : ∀ v : Int, v = tgF s.1 i 16 0 → Q (.inl (some (vI v))) M1 := fun v hv => hQ M1 v mf h1 e0 (fun _ => hv)
    generalize hT : tgF s.1 i 16 0 = T at hQ'
    have key : ∀ a : Nat, a ≤ 16 → ∀ (x f : Int) (z4 z5 : Option Vl), x = (a : Int) → (0 ≤ f ∧ f ≤ (a : Int)) → T = tgF s.1 i (16 - a) f → J 9 [some (vR 159), some (vI i), some (vI f), some (vI x), z4, z5] [] M1 := by
      refine dn ?_ ?_
      · intro x f z4 z5 hx hf ht
        exact R_X11_together_9 R (bt (show (16 : Int) ≤ x by omega) (R_X11_together_97 R (hQ' (-1) ht.symm)))
      · intro a ha ih x f z4 z5 hx hf ht
        have hxn : x.toNat = a := by omega
        have ea : 16 - a = (15 - a) + 1 := by omega
        have eb : 15 - (15 - a) = a := by omega
        have ec : 16 - (a + 1) = 15 - a := by omega
        rw [ea, tgF, eb] at ht
        have inner : ∀ q : Nat, q ≤ 4 → ∀ (y b : Int), y = (q : Int) → ((b = 1 ∧ (winB s.1 a = true ∧ ∀ r, r < q → a.testBit r = true → winB s.1 (a ^^^ 2 ^ r) = false)) ∨ (b = 0 ∧ ¬ (winB s.1 a = true ∧ ∀ r, r < q → a.testBit r = true → winB s.1 (a ^^^ 2 ^ r) = false))) → J 25 [some (vR 159), some (vI i), some (vI f), some (vI x), some (vI b), some (vI y)] [] M1 := by
          refine dn ?_ ?_
          · intro y b hy hb
            refine R_X11_together_25 R (bt (show (4 : Int) ≤ y by omega) ?_)
            rcases hb with ⟨rfl, hb⟩ | ⟨rfl, hb⟩
            · have ht2 : htB s.1 a := hb
              rw [if_pos (tf_iff.mpr ht2)] at ht
              refine R_X11_together_73 R (bt (by decide) (R_X11_together_81 R (br (fun g => R_X11_together_88 R (R_X11_together_91 R (ih _ _ _ _ (wn hx (by omega)) ?_ ?_))) (fun g => ?_))))
              · rw [show w32 (f + 1) = f + 1 from w1 (by omega) (by omega) rfl]; omega
              · have g : ¬ f = i := g
                rw [if_neg g] at ht
                rw [ec, show w32 (f + 1) = f + 1 from w1 (by omega) (by omega) rfl]
                exact ht
              · have g : f = i := Classical.not_not.mp g
                rw [if_pos g] at ht
                exact hQ' x (by rw [ht]; exact hx)
            · have ht2 : ¬ htB s.1 a := hb
              rw [if_neg (fun z => ht2 (tf_iff.mp z))] at ht
              refine R_X11_together_73 R (bf (by decide) (R_X11_together_91 R (ih _ _ _ _ (wn hx (by omega)) (by omega) ?_)))
              rw [ec]
              exact ht
          · intro q hq ihq y b hy hb
            have hyn : y.toNat = q := by omega
            have bb := bit_and (x := x) (i := y) (by omega) (by omega) (by omega) (by omega)
            have bc : bitB x y = a.testBit q := by unfold bitB; rw [hxn, hyn]
            rw [bc] at bb
            have no : ¬ (winB s.1 a = true ∧ ∀ r, r < q + 1 → a.testBit r = true → winB s.1 (a ^^^ 2 ^ r) = false) → J 64 [some (vR 159), some (vI i), some (vI f), some (vI x), some (vI b), some (vI y)] [] M1 := fun hn => R_X11_together_64 R (R_X11_together_65 R (ihq _ _ (wn hy (by omega)) (Or.inr ⟨rfl, hn⟩)))
            have yes : (winB s.1 a = true ∧ ∀ r, r < q + 1 → a.testBit r = true → winB s.1 (a ^^^ 2 ^ r) = false) → J 60 [some (vR 159), some (vI i), some (vI f), some (vI x), some (vI b), some (vI y)] [] M1 := fun hn => R_X11_together_60 R (R_X11_together_65 R (ihq _ _ (wn hy (by omega)) (Or.inl ⟨rfl, hn⟩)))
            refine R_X11_together_25 R (bf (show ¬ (4 : Int) ≤ y by omega) ?_)
            rcases hb with ⟨rfl, hb⟩ | ⟨rfl, hb⟩
            · refine bf (by decide) (br (fun g => yes ⟨hb.1, fun r hr hbit => ?_⟩) (fun g => an o159 ?_))
              · have g : andI (shrI x y) 1 = 0 := g
                rw [bb] at g
                by_cases e : r = q
                · subst e; rw [if_pos hbit] at g; exact absurd g (by decide)
                · exact hb.2 r (by omega) hbit
              · have g : ¬ andI (shrI x y) 1 = 0 := g
                rw [bb] at g
                have hbit : a.testBit q = true := by
                  cases h9 : a.testBit q with
                  | true => rfl
                  | false => rw [h9] at g; exact absurd rfl g
                obtain ⟨c1, c2⟩ := clr16 a ha q hq hbit
                rw [← hx, ← hy] at c1
                rw [c1]
                refine ⟨s.1, ⟨rfl, by omega, by omega⟩, h1.1, ?_⟩
                rw [Int.toNat_natCast]
                refine br (fun d => bt (by decide) (no (fun z => ?_))) (fun d => bf (by decide) (yes ⟨hb.1, fun r hr hbit2 => ?_⟩))
                · have := z.2 q (by omega) hbit
                  rw [this] at d
                  exact absurd d (by decide)
                · by_cases e : r = q
                  · subst e; exact Bool.eq_false_iff.mpr d
                  · exact hb.2 r (by omega) hbit2
            · exact bt rfl (no (fun z => hb ⟨z.1, fun r hr => z.2 r (by omega)⟩))
        refine R_X11_together_9 R (bf (show ¬ (16 : Int) ≤ x by omega) (an o159 ⟨s.1, ⟨rfl, by omega, by omega⟩, h1.1, ?_⟩))
        rw [hxn]
        exact br (fun d => inner 0 (by decide) _ _ rfl (Or.inl ⟨rfl, d, fun r hr => absurd hr (Nat.not_lt_zero r)⟩)) (fun d => inner 0 (by decide) _ _ rfl (Or.inr ⟨rfl, fun z => d z.1⟩))
    exact key 0 (by decide) _ _ _ _ rfl (by decide) hT.symm



  · exact h.elim