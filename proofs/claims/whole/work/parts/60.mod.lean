/-! the reference: its cells -/
def MdP (M Ab : Mem) : Prop := HallOK Ab ∧ (M 163 0 = Ab 10 1 ∧ M 163 1 = Ab 10 2 ∧ M 163 2 = Ab 10 3 ∧ M 163 3 = Ab 10 4 ∧ M 163 4 = Ab 10 0) ∧
  (∀ p, p < nP Ab → M (176 + p) 0 = Ab 4 p ∧ M (176 + p) 1 = Ab 5 p) ∧ (∀ t, t < nT Ab → M (202 + t) 0 = Ab 0 t ∧ M (202 + t) 1 = Ab 1 t ∧ M (202 + t) 2 = Ab 2 t ∧ M (202 + t) 3 = Ab 3 t) ∧
  (∀ d, d < nD Ab → M 277 d = Ab 6 d) ∧ ∀ m, m < nM Ab → M (226 + m) 0 = Ab 7 m ∧ M (226 + m) 1 = Ab 8 m ∧ M (226 + m) 2 = Ab 9 m
def G_X11_in : FN := fun as M Q => match as with
  | [.inl x, .inl a, .inl b] => bq (a ≤ x ∧ x ≤ b) Q M
  | _ => False
def G_X11_isDigit : FN := fun as M Q => match as with
  | [.inl x] => bq (48 ≤ x ∧ x ≤ 57) Q M
  | _ => False
def b_X11_in_0 : List AT := [tx_il 0, tx_il 1, tx_cmp r_lt 14, tx_il 0, tx_il 2, tx_cmp r_gt 14, tx_ic 1, tx_fall 15]
def b_X11_in_14 : List AT := [tx_ic 0, tx_fall 15]
def b_X11_in_15 : List AT := [tx_rz]
def R_X11_in (J : JT) (Q : QT) : Prop := (∀ ls st M, wpl J Q b_X11_in_0 ls st M → J 0 ls st M) ∧ (∀ ls st M, wpl J Q b_X11_in_14 ls st M → J 14 ls st M) ∧ (∀ ls st M, wpl J Q b_X11_in_15 ls st M → J 15 ls st M)
theorem R_X11_in_0 {J : JT} {Q : QT} (R : R_X11_in J Q) {ls : Ls} {st : St} {M : Mem} (h : wpl J Q b_X11_in_0 ls st M) : J 0 ls st M := R.1 ls st M h
theorem R_X11_in_14 {J : JT} {Q : QT} (R : R_X11_in J Q) {ls : Ls} {st : St} {M : Mem} (h : wpl J Q b_X11_in_14 ls st M) : J 14 ls st M := R.2.1 ls st M h
theorem R_X11_in_15 {J : JT} {Q : QT} (R : R_X11_in J Q) {ls : Ls} {st : St} {M : Mem} (h : wpl J Q b_X11_in_15 ls st M) : J 15 ls st M := R.2.2 ls st M h
def b_X11_isDigit_0 : List AT := [tx_il 0, tx_ic 48, tx_cmp r_lt 16, tx_il 0, tx_ic 57, tx_cmp r_gt 16, tx_ic 1, tx_fall 17]
def b_X11_isDigit_16 : List AT := [tx_ic 0, tx_fall 17]
def b_X11_isDigit_17 : List AT := [tx_rz]
def R_X11_isDigit (J : JT) (Q : QT) : Prop := (∀ ls st M, wpl J Q b_X11_isDigit_0 ls st M → J 0 ls st M) ∧ (∀ ls st M, wpl J Q b_X11_isDigit_16 ls st M → J 16 ls st M) ∧ (∀ ls st M, wpl J Q b_X11_isDigit_17 ls st M → J 17 ls st M)
theorem R_X11_isDigit_0 {J : JT} {Q : QT} (R : R_X11_isDigit J Q) {ls : Ls} {st : St} {M : Mem} (h : wpl J Q b_X11_isDigit_0 ls st M) : J 0 ls st M := R.1 ls st M h
theorem R_X11_isDigit_16 {J : JT} {Q : QT} (R : R_X11_isDigit J Q) {ls : Ls} {st : St} {M : Mem} (h : wpl J Q b_X11_isDigit_16 ls st M) : J 16 ls st M := R.2.1 ls st M h
theorem R_X11_isDigit_17 {J : JT} {Q : QT} (R : R_X11_isDigit J Q) {ls : Ls} {st : St} {M : Mem} (h : wpl J Q b_X11_isDigit_17 ls st M) : J 17 ls st M := R.2.2 ls st M h
theorem P_X11_in {J : JT} {Q : QT} (R : R_X11_in J Q) {as : List Vl} {M : Mem} (h : nf G_X11_in as M Q) : (enL as).length ≤ 3 ∧ J 0 (padL 3 (enL as)) [] M := by
  unfold nf G_X11_in at h
  split at h
  · rename_i x a b
    have no : ¬ (a ≤ x ∧ x ≤ b) → J 14 [some (vI x), some (vI a), some (vI b)] [] M := fun q => R_X11_in_14 R (R_X11_in_15 R (an (Or.inl rfl) (h.2 q)))
    refine ⟨Nat.le_of_ble_eq_true rfl, R_X11_in_0 R (br (fun q => no (fun z => absurd q (show ¬ x < a by omega))) (fun q => br (fun q2 => no (fun z => absurd q2 (show ¬ b < x by omega))) (fun q2 => R_X11_in_15 R (an (Or.inr rfl) (h.1 ?_)))))⟩
    have q : ¬ x < a := q
    have q2 : ¬ b < x := q2
    omega
  · exact h.elim
theorem P_X11_isDigit {J : JT} {Q : QT} (R : R_X11_isDigit J Q) {as : List Vl} {M : Mem} (h : nf G_X11_isDigit as M Q) : (enL as).length ≤ 1 ∧ J 0 (padL 1 (enL as)) [] M := by
  unfold nf G_X11_isDigit at h
  split at h
  · rename_i x
    have no : ¬ (48 ≤ x ∧ x ≤ 57) → J 16 [some (vI x)] [] M := fun q => R_X11_isDigit_16 R (R_X11_isDigit_17 R (an (Or.inl rfl) (h.2 q)))
    refine ⟨Nat.le_of_ble_eq_true rfl, R_X11_isDigit_0 R (br (fun q => no (fun z => absurd q (show ¬ x < 48 by omega))) (fun q => br (fun q2 => no (fun z => absurd q2 (show ¬ 57 < x by omega))) (fun q2 => R_X11_isDigit_17 R (an (Or.inr rfl) (h.1 ?_)))))⟩
    have q : ¬ x < 48 := q
    have q2 : ¬ 57 < x := q2
    omega

  · exact h.elim