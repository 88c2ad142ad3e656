/-! the cells of each kind of object -/
def PlanAt (k : Nat) : Prop := k = 3 ∨ k = 14 ∨ k = 43 ∨ k = 70 ∨ k = 94
def LoanAt (k : Nat) : Prop := k = 25 ∨ k = 30 ∨ k = 54 ∨ k = 81 ∨ k = 105 ∨ k = 132 ∨ k = 141 ∨ k = 150
def BalAt (k : Nat) : Prop := k = 35 ∨ k = 137 ∨ k = 146 ∨ k = 155
def SitAt (k : Nat) : Prop := k = 42 ∨ k = 69 ∨ k = 93
theorem pl_ob {k : Nat} (h : PlanAt k) : OB k 6 := by rcases h with rfl | rfl | rfl | rfl | rfl <;> exact ⟨rfl, rfl⟩
theorem lo_ob {k : Nat} (h : LoanAt k) : OB k 5 := by rcases h with rfl | rfl | rfl | rfl | rfl | rfl | rfl | rfl <;> exact ⟨rfl, rfl⟩
theorem ba_ob {k : Nat} (h : BalAt k) : OB k 0 := by rcases h with rfl | rfl | rfl | rfl <;> exact ⟨rfl, rfl⟩
theorem si_ob {k : Nat} (h : SitAt k) : OB k 8 := by rcases h with rfl | rfl | rfl <;> exact ⟨rfl, rfl⟩
theorem pl_1 {k : Nat} (h : PlanAt k) : SH (k + 1) = (1, 10, 0, 0) := by rcases h with rfl | rfl | rfl | rfl | rfl <;> rfl
theorem pl_2 {k : Nat} (h : PlanAt k) : SH (k + 2) = (1, 10, 0, 0) := by rcases h with rfl | rfl | rfl | rfl | rfl <;> rfl
theorem pl_3 {k : Nat} (h : PlanAt k) : SH (k + 3) = (1, 14, 0, 0) := by rcases h with rfl | rfl | rfl | rfl | rfl <;> rfl
theorem pl_4 {k : Nat} (h : PlanAt k) : SH (k + 4) = (1, 14, 0, 0) := by rcases h with rfl | rfl | rfl | rfl | rfl <;> rfl
theorem pl_5 {k : Nat} (h : PlanAt k) : SH (k + 5) = (1, 14, 0, 0) := by rcases h with rfl | rfl | rfl | rfl | rfl <;> rfl
theorem pl_6 {k : Nat} (h : PlanAt k) : SH (k + 6) = (1, 14, 0, 0) := by rcases h with rfl | rfl | rfl | rfl | rfl <;> rfl
theorem pl_7 {k : Nat} (h : PlanAt k) : SH (k + 7) = (1, 3, 0, 0) := by rcases h with rfl | rfl | rfl | rfl | rfl <;> rfl
theorem pl_8 {k : Nat} (h : PlanAt k) : SH (k + 8) = (1, 8, 0, 0) := by rcases h with rfl | rfl | rfl | rfl | rfl <;> rfl
theorem pl_9 {k : Nat} (h : PlanAt k) : SH (k + 9) = (1, 8, 0, 0) := by rcases h with rfl | rfl | rfl | rfl | rfl <;> rfl
theorem pl_10 {k : Nat} (h : PlanAt k) : SH (k + 10) = (1, 8, 0, 0) := by rcases h with rfl | rfl | rfl | rfl | rfl <;> rfl
theorem lo_n {k : Nat} (h : LoanAt k) {j : Nat} (h1 : 1 ≤ j) (h4 : j ≤ 4) : SH (k + j) = (1, 20, 0, 0) := by
  rcases (show j = 1 ∨ j = 2 ∨ j = 3 ∨ j = 4 by omega) with rfl | rfl | rfl | rfl <;> rcases h with rfl | rfl | rfl | rfl | rfl | rfl | rfl | rfl <;> rfl
theorem ba_n {k : Nat} (h : BalAt k) {j : Nat} (h1 : 1 ≤ j) (h3 : j ≤ 3) : SH (k + j) = (1, 9, 0, 0) := by
  rcases (show j = 1 ∨ j = 2 ∨ j = 3 by omega) with rfl | rfl | rfl <;> rcases h with rfl | rfl | rfl | rfl <;> rfl
theorem si_14 {k : Nat} (h : SitAt k) {j : Nat} (h1 : 17 ≤ j) (h3 : j ≤ 19) : SH (k + j) = (1, 14, 0, 0) := by
  rcases (show j = 17 ∨ j = 18 ∨ j = 19 by omega) with rfl | rfl | rfl <;> rcases h with rfl | rfl | rfl <;> rfl
theorem si_10 {k : Nat} (h : SitAt k) {j : Nat} (h1 : 20 ≤ j) (h3 : j ≤ 22) : SH (k + j) = (1, 10, 0, 0) := by
  rcases (show j = 20 ∨ j = 21 ∨ j = 22 by omega) with rfl | rfl | rfl <;> rcases h with rfl | rfl | rfl <;> rfl
theorem si_3 {k : Nat} (h : SitAt k) : SH (k + 23) = (1, 3, 0, 0) := by rcases h with rfl | rfl | rfl <;> rfl
/-! THE ABSTRACT STATE: cells 0 owner, 1 weight, 2 door, 3 start; 4 party, 5 arm; 6 width; 7 minute, 8 pro, 9 con; 10: law, persons, things, doors, motions, lendings, votes, images, tape, fault, refused twice; 11 to 14 lendings; 15 to 17 votes; 18 bytes; 20 + 8 i images -/
def nP (Ab : Mem) : Nat := (Ab 10 1).toNat
def nT (Ab : Mem) : Nat := (Ab 10 2).toNat
def nD (Ab : Mem) : Nat := (Ab 10 3).toNat
def nM (Ab : Mem) : Nat := (Ab 10 4).toNat
def HallOK (Ab : Mem) : Prop :=
  (0 ≤ Ab 10 1 ∧ Ab 10 1 ≤ 10) ∧ (0 ≤ Ab 10 2 ∧ Ab 10 2 ≤ 14) ∧ (0 ≤ Ab 10 3 ∧ Ab 10 3 ≤ 3) ∧ (0 ≤ Ab 10 4 ∧ Ab 10 4 ≤ 8) ∧ (0 ≤ Ab 10 0 ∧ Ab 10 0 ≤ 2) ∧
  (∀ p, p < nP Ab → (0 ≤ Ab 4 p ∧ Ab 4 p ≤ 3) ∧ 1 ≤ Ab 5 p ∧ Ab 5 p ≤ 99) ∧
  (∀ t, t < nT Ab → (0 ≤ Ab 0 t ∧ Ab 0 t < Ab 10 1) ∧ (1 ≤ Ab 1 t ∧ Ab 1 t ≤ 99) ∧ (-1 ≤ Ab 2 t ∧ Ab 2 t < Ab 10 3) ∧ (0 ≤ Ab 3 t ∧ Ab 3 t ≤ 99)) ∧
  (∀ d, d < nD Ab → 1 ≤ Ab 6 d ∧ Ab 6 d ≤ 99) ∧
  (∀ m, m < nM Ab → (0 ≤ Ab 7 m ∧ Ab 7 m ≤ 119) ∧ (0 ≤ Ab 8 m ∧ Ab 8 m < 2 ^ nP Ab) ∧ (0 ≤ Ab 9 m ∧ Ab 9 m < 2 ^ nP Ab))
def PlanRel (M : Mem) (k : Nat) (Ab : Mem) : Prop :=
  M k 0 = Ab 10 1 ∧ M k 3 = Ab 10 2 ∧ M k 8 = Ab 10 3 ∧ M k 10 = Ab 10 4 ∧ M k 14 = Ab 10 0 ∧
  (∀ p, p < nP Ab → M (k + 1) p = Ab 4 p ∧ M (k + 2) p = Ab 5 p) ∧
  (∀ t, t < nT Ab → M (k + 3) t = Ab 0 t ∧ M (k + 4) t = Ab 1 t ∧ M (k + 5) t = Ab 2 t ∧ M (k + 6) t = Ab 3 t) ∧
  (∀ d, d < nD Ab → M (k + 7) d = Ab 6 d) ∧
  (∀ m, m < nM Ab → M (k + 8) m = Ab 7 m ∧ M (k + 9) m = Ab 8 m ∧ M (k + 10) m = Ab 9 m)
theorem PlanRel.kept {M M' : Mem} {k : Nat} {Ab : Mem} (h : PlanRel M k Ab) (e : ∀ a b, k ≤ a → a ≤ k + 10 → M' a b = M a b) : PlanRel M' k Ab := by
  obtain ⟨h1, h2, h3, h4, h5, h6, h7, h8, h9⟩ := h
  refine ⟨by rw [e k _ (by omega) (by omega)]; exact h1, by rw [e k _ (by omega) (by omega)]; exact h2, by rw [e k _ (by omega) (by omega)]; exact h3, by rw [e k _ (by omega) (by omega)]; exact h4, by rw [e k _ (by omega) (by omega)]; exact h5, fun p hp => ?_, fun p hp => ?_, fun p hp => ?_, fun p hp => ?_⟩
  · rw [e _ _ (by omega) (by omega), e _ _ (by omega) (by omega)]; exact h6 p hp
  · rw [e _ _ (by omega) (by omega), e _ _ (by omega) (by omega), e _ _ (by omega) (by omega), e _ _ (by omega) (by omega)]; exact h7 p hp
  · rw [e _ _ (by omega) (by omega)]; exact h8 p hp
  · rw [e _ _ (by omega) (by omega), e _ _ (by omega) (by omega), e _ _ (by omega) (by omega)]; exact h9 p hp
/-- a plan's cells, of a hall that is one -/
def PL (M : Mem) (k : Nat) (Ab : Mem) : Prop := PlanAt k ∧ PlanRel M k Ab ∧ HallOK Ab
def bq (c : Prop) (Q : Option Vl → Mem → Prop) (M : Mem) : Prop := (c → Q (some (vI 1)) M) ∧ (¬ c → Q (some (vI 0)) M)
/-! the smallest methods -/
def G_X10_isIn : FN := fun as M Q => match as with
  | [.inl i, .inl x] => (0 ≤ i ∧ i < 31 ∧ 0 ≤ x ∧ x < 2147483648) ∧ bq (bitB x i = true) Q M
  | _ => False
def G_X10_cut : FN := fun as M Q => match as with
  | [.inl a, .inl b] => (0 < b ∧ 0 ≤ a ∧ a < 2147483648) ∧ Q (some (vI (a / b))) M
  | _ => False
def rootF : Nat → Nat → Nat
  | 0, _ => 0
  | f + 1, n => let r := rootF f n; if (r + 1) * (r + 1) ≤ n then r + 1 else r
def rootN (n : Nat) : Nat := rootF 40 n
def G_X10_isMinute : FN := fun as M Q => match as with
  | [.inl x] => bq (0 ≤ x ∧ x < 120) Q M
  | _ => False
def G_X10_isLaw : FN := fun as M Q => match as with
  | [.inl x] => bq (0 ≤ x ∧ x < 3) Q M
  | _ => False
def G_J9_max_7cf53 : FN := fun as M Q => match as with
  | [.inl a, .inl b] => Q (some (vI (max a b))) M
  | _ => False
def G_J9_min_7cf53 : FN := fun as M Q => match as with
  | [.inl a, .inl b] => Q (some (vI (min a b))) M
  | _ => False
def popF : Nat → Nat → Nat
  | 0, _ => 0
  | f + 1, n => n % 2 + popF f (n / 2)
def popc (n : Nat) : Nat := popF 14 n
def lowF : Nat → Nat → Nat
  | 0, _ => 0
  | f + 1, n => if n % 2 = 1 then 0 else 1 + lowF f (n / 2)
def lowB (n : Nat) : Nat := lowF 14 n
def G_J6_bitCount_0f7a4 : FN := fun as M Q => match as with
  | [.inl a] => (0 ≤ a ∧ a < 16384) ∧ Q (some (vI (popc a.toNat : Nat))) M
  | _ => False
def G_X10_lowestOf : FN := fun as M Q => match as with
  | [.inl a] => (0 < a ∧ a < 16384) ∧ Q (some (vI (lowB a.toNat : Nat))) M
  | _ => False
def b_X10_isIn_0 : List AT := [tx_il 1, tx_il 0, tx_bin shrI, tx_ic 1, tx_bin andI, tx_ic 1, tx_cmp r_ne 13, tx_ic 1, tx_fall 14]
def b_X10_isIn_13 : List AT := [tx_ic 0, tx_fall 14]
def b_X10_isIn_14 : List AT := [tx_rz]
def R_X10_isIn (J : JT) (Q : QT) : Prop := (∀ ls st M, wpl J Q b_X10_isIn_0 ls st M → J 0 ls st M) ∧ (∀ ls st M, wpl J Q b_X10_isIn_13 ls st M → J 13 ls st M) ∧ (∀ ls st M, wpl J Q b_X10_isIn_14 ls st M → J 14 ls st M)
theorem R_X10_isIn_0 {J : JT} {Q : QT} (R : R_X10_isIn J Q) {ls : Ls} {st : St} {M : Mem} (h : wpl J Q b_X10_isIn_0 ls st M) : J 0 ls st M := R.1 ls st M h
theorem R_X10_isIn_13 {J : JT} {Q : QT} (R : R_X10_isIn J Q) {ls : Ls} {st : St} {M : Mem} (h : wpl J Q b_X10_isIn_13 ls st M) : J 13 ls st M := R.2.1 ls st M h
theorem R_X10_isIn_14 {J : JT} {Q : QT} (R : R_X10_isIn J Q) {ls : Ls} {st : St} {M : Mem} (h : wpl J Q b_X10_isIn_14 ls st M) : J 14 ls st M := R.2.2 ls st M h
def b_X10_cut_0 : List AT := [tx_il 1, tx_ifz r_le 10, tx_il 0, tx_il 1, tx_div, tx_fall 11]
def b_X10_cut_10 : List AT := [tx_ic 0, tx_fall 11]
def b_X10_cut_11 : List AT := [tx_ri]
def R_X10_cut (J : JT) (Q : QT) : Prop := (∀ ls st M, wpl J Q b_X10_cut_0 ls st M → J 0 ls st M) ∧ (∀ ls st M, wpl J Q b_X10_cut_10 ls st M → J 10 ls st M) ∧ (∀ ls st M, wpl J Q b_X10_cut_11 ls st M → J 11 ls st M)
theorem R_X10_cut_0 {J : JT} {Q : QT} (R : R_X10_cut J Q) {ls : Ls} {st : St} {M : Mem} (h : wpl J Q b_X10_cut_0 ls st M) : J 0 ls st M := R.1 ls st M h
theorem R_X10_cut_10 {J : JT} {Q : QT} (R : R_X10_cut J Q) {ls : Ls} {st : St} {M : Mem} (h : wpl J Q b_X10_cut_10 ls st M) : J 10 ls st M := R.2.1 ls st M h
theorem R_X10_cut_11 {J : JT} {Q : QT} (R : R_X10_cut J Q) {ls : Ls} {st : St} {M : Mem} (h : wpl J Q b_X10_cut_11 ls st M) : J 11 ls st M := R.2.2 ls st M h
def b_X10_isMinute_0 : List AT := [tx_il 0, tx_ifz r_lt 14, tx_il 0, tx_ic 120, tx_cmp r_ge 14, tx_ic 1, tx_fall 15]
def b_X10_isMinute_14 : List AT := [tx_ic 0, tx_fall 15]
def b_X10_isMinute_15 : List AT := [tx_rz]
def R_X10_isMinute (J : JT) (Q : QT) : Prop := (∀ ls st M, wpl J Q b_X10_isMinute_0 ls st M → J 0 ls st M) ∧ (∀ ls st M, wpl J Q b_X10_isMinute_14 ls st M → J 14 ls st M) ∧ (∀ ls st M, wpl J Q b_X10_isMinute_15 ls st M → J 15 ls st M)
theorem R_X10_isMinute_0 {J : JT} {Q : QT} (R : R_X10_isMinute J Q) {ls : Ls} {st : St} {M : Mem} (h : wpl J Q b_X10_isMinute_0 ls st M) : J 0 ls st M := R.1 ls st M h
theorem R_X10_isMinute_14 {J : JT} {Q : QT} (R : R_X10_isMinute J Q) {ls : Ls} {st : St} {M : Mem} (h : wpl J Q b_X10_isMinute_14 ls st M) : J 14 ls st M := R.2.1 ls st M h
theorem R_X10_isMinute_15 {J : JT} {Q : QT} (R : R_X10_isMinute J Q) {ls : Ls} {st : St} {M : Mem} (h : wpl J Q b_X10_isMinute_15 ls st M) : J 15 ls st M := R.2.2 ls st M h
def b_X10_isLaw_0 : List AT := [tx_il 0, tx_ifz r_lt 13, tx_il 0, tx_ic 3, tx_cmp r_ge 13, tx_ic 1, tx_fall 14]
def b_X10_isLaw_13 : List AT := [tx_ic 0, tx_fall 14]
def b_X10_isLaw_14 : List AT := [tx_rz]
def R_X10_isLaw (J : JT) (Q : QT) : Prop := (∀ ls st M, wpl J Q b_X10_isLaw_0 ls st M → J 0 ls st M) ∧ (∀ ls st M, wpl J Q b_X10_isLaw_13 ls st M → J 13 ls st M) ∧ (∀ ls st M, wpl J Q b_X10_isLaw_14 ls st M → J 14 ls st M)
theorem R_X10_isLaw_0 {J : JT} {Q : QT} (R : R_X10_isLaw J Q) {ls : Ls} {st : St} {M : Mem} (h : wpl J Q b_X10_isLaw_0 ls st M) : J 0 ls st M := R.1 ls st M h
theorem R_X10_isLaw_13 {J : JT} {Q : QT} (R : R_X10_isLaw J Q) {ls : Ls} {st : St} {M : Mem} (h : wpl J Q b_X10_isLaw_13 ls st M) : J 13 ls st M := R.2.1 ls st M h
theorem R_X10_isLaw_14 {J : JT} {Q : QT} (R : R_X10_isLaw J Q) {ls : Ls} {st : St} {M : Mem} (h : wpl J Q b_X10_isLaw_14 ls st M) : J 14 ls st M := R.2.2 ls st M h
def b_J9_max_7cf53_0 : List AT := [tx_il 0, tx_il 1, tx_cmp r_lt 9, tx_il 0, tx_fall 10]
def b_J9_max_7cf53_9 : List AT := [tx_il 1, tx_fall 10]
def b_J9_max_7cf53_10 : List AT := [tx_ri]
def R_J9_max_7cf53 (J : JT) (Q : QT) : Prop := (∀ ls st M, wpl J Q b_J9_max_7cf53_0 ls st M → J 0 ls st M) ∧ (∀ ls st M, wpl J Q b_J9_max_7cf53_9 ls st M → J 9 ls st M) ∧ (∀ ls st M, wpl J Q b_J9_max_7cf53_10 ls st M → J 10 ls st M)
theorem R_J9_max_7cf53_0 {J : JT} {Q : QT} (R : R_J9_max_7cf53 J Q) {ls : Ls} {st : St} {M : Mem} (h : wpl J Q b_J9_max_7cf53_0 ls st M) : J 0 ls st M := R.1 ls st M h
theorem R_J9_max_7cf53_9 {J : JT} {Q : QT} (R : R_J9_max_7cf53 J Q) {ls : Ls} {st : St} {M : Mem} (h : wpl J Q b_J9_max_7cf53_9 ls st M) : J 9 ls st M := R.2.1 ls st M h
theorem R_J9_max_7cf53_10 {J : JT} {Q : QT} (R : R_J9_max_7cf53 J Q) {ls : Ls} {st : St} {M : Mem} (h : wpl J Q b_J9_max_7cf53_10 ls st M) : J 10 ls st M := R.2.2 ls st M h
def b_J9_min_7cf53_0 : List AT := [tx_il 0, tx_il 1, tx_cmp r_gt 9, tx_il 0, tx_fall 10]
def b_J9_min_7cf53_9 : List AT := [tx_il 1, tx_fall 10]
def b_J9_min_7cf53_10 : List AT := [tx_ri]
def R_J9_min_7cf53 (J : JT) (Q : QT) : Prop := (∀ ls st M, wpl J Q b_J9_min_7cf53_0 ls st M → J 0 ls st M) ∧ (∀ ls st M, wpl J Q b_J9_min_7cf53_9 ls st M → J 9 ls st M) ∧ (∀ ls st M, wpl J Q b_J9_min_7cf53_10 ls st M → J 10 ls st M)
theorem R_J9_min_7cf53_0 {J : JT} {Q : QT} (R : R_J9_min_7cf53 J Q) {ls : Ls} {st : St} {M : Mem} (h : wpl J Q b_J9_min_7cf53_0 ls st M) : J 0 ls st M := R.1 ls st M h
theorem R_J9_min_7cf53_9 {J : JT} {Q : QT} (R : R_J9_min_7cf53 J Q) {ls : Ls} {st : St} {M : Mem} (h : wpl J Q b_J9_min_7cf53_9 ls st M) : J 9 ls st M := R.2.1 ls st M h
theorem R_J9_min_7cf53_10 {J : JT} {Q : QT} (R : R_J9_min_7cf53 J Q) {ls : Ls} {st : St} {M : Mem} (h : wpl J Q b_J9_min_7cf53_10 ls st M) : J 10 ls st M := R.2.2 ls st M h
def b_J6_bitCount_0f7a4_0 : List AT := [tx_il 0, tx_il 0, tx_ic 1, tx_bin ushI, tx_ic 1431655765, tx_bin andI, tx_bin f_sub, tx_is 0, tx_il 0, tx_ic 858993459, tx_bin andI, tx_il 0, tx_ic 2, tx_bin ushI, tx_ic 858993459, tx_bin andI, tx_bin f_add, tx_is 0, tx_il 0, tx_il 0, tx_ic 4, tx_bin ushI, tx_bin f_add, tx_ic 252645135, tx_bin andI, tx_is 0, tx_il 0, tx_il 0, tx_ic 8, tx_bin ushI, tx_bin f_add, tx_is 0, tx_il 0, tx_il 0, tx_ic 16, tx_bin ushI, tx_bin f_add, tx_is 0, tx_il 0, tx_ic 63, tx_bin andI, tx_ri]
def R_J6_bitCount_0f7a4 (J : JT) (Q : QT) : Prop := (∀ ls st M, wpl J Q b_J6_bitCount_0f7a4_0 ls st M → J 0 ls st M)
theorem R_J6_bitCount_0f7a4_0 {J : JT} {Q : QT} (R : R_J6_bitCount_0f7a4 J Q) {ls : Ls} {st : St} {M : Mem} (h : wpl J Q b_J6_bitCount_0f7a4_0 ls st M) : J 0 ls st M := R ls st M h
def b_X10_lowestOf_0 : List AT := [tx_il 0, tx_il 0, tx_neg, tx_bin andI, tx_ic 1, tx_bin f_sub, tx_call (nf G_J6_bitCount_0f7a4) 1, tx_ri]
def R_X10_lowestOf (J : JT) (Q : QT) : Prop := (∀ ls st M, wpl J Q b_X10_lowestOf_0 ls st M → J 0 ls st M)
theorem R_X10_lowestOf_0 {J : JT} {Q : QT} (R : R_X10_lowestOf J Q) {ls : Ls} {st : St} {M : Mem} (h : wpl J Q b_X10_lowestOf_0 ls st M) : J 0 ls st M := R ls st M h
theorem P_X10_isIn {J : JT} {Q : QT} (R : R_X10_isIn J Q) {as : List Vl} {M : Mem} (h : nf G_X10_isIn as M Q) : (enL as).length ≤ 2 ∧ J 0 (padL 2 (enL as)) [] M := by
  unfold nf G_X10_isIn at h
  split at h
  · rename_i i x
    obtain ⟨⟨h1, h2, h3, h4⟩, hQ⟩ := h
    refine ⟨Nat.le_of_ble_eq_true rfl, R_X10_isIn_0 R (br (fun q => ?_) (fun q => ?_))⟩
    · have q : ¬ andI (shrI x i) 1 = 1 := q
      rw [bit_and h3 h4 h1 (by omega)] at q
      exact R_X10_isIn_13 R (R_X10_isIn_14 R (an (Or.inl rfl) (hQ.2 (fun z => by rw [z] at q; exact q rfl))))
    · have q : ¬ ¬ andI (shrI x i) 1 = 1 := q
      rw [bit_and h3 h4 h1 (by omega)] at q
      refine R_X10_isIn_14 R (an (Or.inr rfl) (hQ.1 ?_))
      cases hb : bitB x i with
      | true => rfl
      | false => rw [hb] at q; exact absurd (by decide) q
  · exact h.elim
theorem P_X10_cut {J : JT} {Q : QT} (R : R_X10_cut J Q) {as : List Vl} {M : Mem} (h : nf G_X10_cut as M Q) : (enL as).length ≤ 2 ∧ J 0 (padL 2 (enL as)) [] M := by
  unfold nf G_X10_cut at h
  split at h
  · rename_i a b
    obtain ⟨⟨h1, h2, h3⟩, hQ⟩ := h
    have e : w32 (a.tdiv b) = a / b := by
      rw [Int.tdiv_eq_ediv_of_nonneg h2]
      have q1 : 0 ≤ a / b := Int.ediv_nonneg h2 (by omega)
      have q2 : a / b ≤ a := Int.ediv_le_self _ h2
      exact w1 (by omega) (by omega) rfl
    rw [← e] at hQ
    exact ⟨Nat.le_of_ble_eq_true rfl, R_X10_cut_0 R (bf (show ¬ b ≤ 0 by omega) (an (show b ≠ 0 by omega) (R_X10_cut_11 R hQ)))⟩
  · exact h.elim
theorem P_X10_isMinute {J : JT} {Q : QT} (R : R_X10_isMinute J Q) {as : List Vl} {M : Mem} (h : nf G_X10_isMinute as M Q) : (enL as).length ≤ 1 ∧ J 0 (padL 1 (enL as)) [] M := by
  unfold nf G_X10_isMinute at h
  split at h
  · rename_i x
    have no : ¬ (0 ≤ x ∧ x < 120) → J 14 [some (vI x)] [] M := fun q => R_X10_isMinute_14 R (R_X10_isMinute_15 R (an (Or.inl rfl) (h.2 q)))
    refine ⟨Nat.le_of_ble_eq_true rfl, R_X10_isMinute_0 R (br (fun q => no (fun z => absurd q (show ¬ x < 0 by omega))) (fun q => br (fun q2 => no (fun z => absurd q2 (show ¬ 120 ≤ x by omega))) (fun q2 => R_X10_isMinute_15 R (an (Or.inr rfl) (h.1 ?_)))))⟩
    have q : ¬ x < 0 := q
    have q2 : ¬ 120 ≤ x := q2
    omega
  · exact h.elim
theorem P_X10_isLaw {J : JT} {Q : QT} (R : R_X10_isLaw J Q) {as : List Vl} {M : Mem} (h : nf G_X10_isLaw as M Q) : (enL as).length ≤ 1 ∧ J 0 (padL 1 (enL as)) [] M := by
  unfold nf G_X10_isLaw at h
  split at h
  · rename_i x
    have no : ¬ (0 ≤ x ∧ x < 3) → J 13 [some (vI x)] [] M := fun q => R_X10_isLaw_13 R (R_X10_isLaw_14 R (an (Or.inl rfl) (h.2 q)))
    refine ⟨Nat.le_of_ble_eq_true rfl, R_X10_isLaw_0 R (br (fun q => no (fun z => absurd q (show ¬ x < 0 by omega))) (fun q => br (fun q2 => no (fun z => absurd q2 (show ¬ 3 ≤ x by omega))) (fun q2 => R_X10_isLaw_14 R (an (Or.inr rfl) (h.1 ?_)))))⟩
    have q : ¬ x < 0 := q
    have q2 : ¬ 3 ≤ x := q2
    omega
  · exact h.elim
theorem P_J9_max_7cf53 {J : JT} {Q : QT} (R : R_J9_max_7cf53 J Q) {as : List Vl} {M : Mem} (h : nf G_J9_max_7cf53 as M Q) : (enL as).length ≤ 2 ∧ J 0 (padL 2 (enL as)) [] M := by
  unfold nf G_J9_max_7cf53 at h
  split at h
  · rename_i a b
    refine ⟨Nat.le_of_ble_eq_true rfl, R_J9_max_7cf53_0 R (br (fun q => R_J9_max_7cf53_9 R (R_J9_max_7cf53_10 R ?_)) (fun q => R_J9_max_7cf53_10 R ?_))⟩
    · have q : a < b := q
      rw [show max a b = b by omega] at h
      exact h
    · have q : ¬ a < b := q
      rw [show max a b = a by omega] at h
      exact h
  · exact h.elim
theorem P_J9_min_7cf53 {J : JT} {Q : QT} (R : R_J9_min_7cf53 J Q) {as : List Vl} {M : Mem} (h : nf G_J9_min_7cf53 as M Q) : (enL as).length ≤ 2 ∧ J 0 (padL 2 (enL as)) [] M := by
  unfold nf G_J9_min_7cf53 at h
  split at h
  · rename_i a b
    refine ⟨Nat.le_of_ble_eq_true rfl, R_J9_min_7cf53_0 R (br (fun q => R_J9_min_7cf53_9 R (R_J9_min_7cf53_10 R ?_)) (fun q => R_J9_min_7cf53_10 R ?_))⟩
    · have q : b < a := q
      rw [show min a b = b by omega] at h
      exact h
    · have q : ¬ b < a := q
      rw [show min a b = a by omega] at h
      exact h
  · exact h.elim
def bc1 (x : Int) : Int := f_sub x (andI (ushI x 1) 1431655765)
def bc2 (x : Int) : Int := f_add (andI x 858993459) (andI (ushI x 2) 858993459)
def bc3 (x : Int) : Int := andI (f_add x (ushI x 4)) 252645135
def bc4 (x : Int) : Int := f_add x (ushI x 8)
def bc5 (x : Int) : Int := f_add x (ushI x 16)
def bcI (x : Int) : Int := andI (bc5 (bc4 (bc3 (bc2 (bc1 x))))) 63
theorem by128 {P : Nat → Prop} (h : ∀ a, a < 128 → ∀ b, b < 128 → P (128 * a + b)) : ∀ n, n < 16384 → P n := by
  intro n hn
  have := h (n / 128) (by omega) (n % 128) (by omega)
  rw [show 128 * (n / 128) + n % 128 = n by omega] at this
  exact this
theorem ush_n {n : Nat} (hn : n < 2147483648) {k : Int} {j : Nat} (hk : (((Int32.ofInt k).toUInt32 &&& Int32.toUInt32 31).toBitVec % 32).toNat = j) : ushI (n : Int) k = ((n / 2 ^ j : Nat) : Int) := by
  unfold ushI
  rw [ofI_nI, pk_ushrN (by omega) _ j hk, nI_toInt]
  exact Nat.lt_of_le_of_lt (Nat.div_le_self _ _) hn
def nb1 (n : Nat) : Nat := n - (n / 2 &&& 1431655765)
def nb2 (n : Nat) : Nat := (n &&& 858993459) + (n / 4 &&& 858993459)
def nb3 (n : Nat) : Nat := (n + n / 16) &&& 252645135
def nb4 (n : Nat) : Nat := n + n / 256
def nb5 (n : Nat) : Nat := n + n / 65536
def nbc (n : Nat) : Nat := nb5 (nb4 (nb3 (nb2 (nb1 n)))) &&& 63
theorem and_le_r (a b : Nat) : a &&& b ≤ a := Nat.and_le_left
theorem bc1_n {n : Nat} (h : n < 1000000) : bc1 (n : Int) = (nb1 n : Nat) := by
  unfold bc1 nb1
  rw [ush_n (by omega) (j := 1) (by decide), show (1431655765 : Int) = ((1431655765 : Nat) : Int) from rfl, andI_n (by omega)]
  have := and_le_r (n / 2 ^ 1) 1431655765
  unfold f_sub
  have e : n / 2 ^ 1 = n / 2 := rfl
  rw [e] at this ⊢
  exact w1 (by omega) (by omega) (by omega)
theorem bc2_n {n : Nat} (h : n < 1000000) : bc2 (n : Int) = (nb2 n : Nat) := by
  unfold bc2 nb2
  rw [ush_n (by omega) (j := 2) (by decide), show (858993459 : Int) = ((858993459 : Nat) : Int) from rfl, andI_n (by omega), andI_n (by omega)]
  have e : n / 2 ^ 2 = n / 4 := rfl
  have h1 := and_le_r n 858993459
  have h2 := and_le_r (n / 4) 858993459
  rw [e]
  unfold f_add
  exact w1 (by omega) (by omega) (by omega)
theorem bc3_n {n : Nat} (h : n < 1000000) : bc3 (n : Int) = (nb3 n : Nat) := by
  unfold bc3 nb3 f_add
  have e : n / 2 ^ 4 = n / 16 := rfl
  rw [ush_n (by omega) (j := 4) (by decide), e, w1 (y := ((n + n / 16 : Nat) : Int)) (by omega) (by omega) (by omega), show (252645135 : Int) = ((252645135 : Nat) : Int) from rfl, andI_n (by omega)]
theorem bc4_n {n : Nat} (h : n < 1000000) : bc4 (n : Int) = (nb4 n : Nat) := by
  unfold bc4 nb4 f_add
  have e : n / 2 ^ 8 = n / 256 := rfl
  rw [ush_n (by omega) (j := 8) (by decide), e, w1 (y := ((n + n / 256 : Nat) : Int)) (by omega) (by omega) (by omega)]
theorem bc5_n {n : Nat} (h : n < 1000000) : bc5 (n : Int) = (nb5 n : Nat) := by
  unfold bc5 nb5 f_add
  have e : n / 2 ^ 16 = n / 65536 := rfl
  rw [ush_n (by omega) (j := 16) (by decide), e, w1 (y := ((n + n / 65536 : Nat) : Int)) (by omega) (by omega) (by omega)]
theorem bcI_n {n : Nat} (h : n < 16384) : bcI (n : Int) = (nbc n : Nat) := by
  unfold bcI nbc
  have h1 : nb1 n < 16384 := by unfold nb1; omega
  rw [bc1_n (by omega)]
  generalize nb1 n = a at h1 ⊢
  have h2 : nb2 a < 40000 := by
    have q1 := and_le_r a 858993459
    have q2 := and_le_r (a / 4) 858993459
    unfold nb2
    omega
  rw [bc2_n (by omega)]
  generalize nb2 a = b at h2 ⊢
  have h3 : nb3 b < 80000 := by
    have q1 := and_le_r (b + b / 16) 252645135
    unfold nb3
    omega
  rw [bc3_n (by omega)]
  generalize nb3 b = c at h3 ⊢
  have h4 : nb4 c < 100000 := by unfold nb4; omega
  rw [bc4_n (by omega)]
  generalize nb4 c = d at h4 ⊢
  have h5 : nb5 d < 200000 := by unfold nb5; omega
  rw [bc5_n (by omega), show (63 : Int) = ((63 : Nat) : Int) from rfl, andI_n (by omega)]
theorem nbc_ok2 : ∀ a, a < 128 → ∀ b, b < 128 → nbc (128 * a + b) = popc (128 * a + b) := by decide +kernel
theorem bc_ok : ∀ n, n < 16384 → bcI ((n : Nat) : Int) = ((popc n : Nat) : Int) := by
  intro n hn
  rw [bcI_n hn, by128 (P := fun n => nbc n = popc n) nbc_ok2 n hn]
theorem low_ok2 : ∀ a, a < 128 → ∀ b, b < 128 → 0 < 128 * a + b → ((128 * a + b) &&& (4294967296 - (128 * a + b)) = 2 ^ lowB (128 * a + b) ∧ popc (2 ^ lowB (128 * a + b) - 1) = lowB (128 * a + b) ∧ 2 ^ lowB (128 * a + b) - 1 < 16384) := by decide +kernel
theorem neg_nI {n : Nat} (h : n < 16384) : Int32.ofInt (w32 (-(n : Int))) = nI (4294967296 - n) := by
  rw [← ofI_nI]
  apply Int32.toInt_inj.mp
  rw [to_of, to_of]
  unfold w32
  omega
theorem lo_ok : ∀ n, n < 16384 → 0 < n → (f_sub (andI ((n : Nat) : Int) (w32 (-((n : Nat) : Int)))) 1 = ((2 ^ lowB n - 1 : Nat) : Int) ∧ popc (2 ^ lowB n - 1) = lowB n ∧ 2 ^ lowB n - 1 < 16384) := by
  intro n hn h0
  obtain ⟨h1, h2, h3⟩ := by128 (P := fun n => 0 < n → (n &&& (4294967296 - n) = 2 ^ lowB n ∧ popc (2 ^ lowB n - 1) = lowB n ∧ 2 ^ lowB n - 1 < 16384)) low_ok2 n hn h0
  refine ⟨?_, h2, h3⟩
  have hp : 0 < 2 ^ lowB n := Nat.pow_pos (by decide)
  have e : andI (n : Int) (w32 (-(n : Int))) = ((2 ^ lowB n : Nat) : Int) := by
    unfold andI
    rw [ofI_nI, neg_nI hn, nI_and, h1, nI_toInt (by omega)]
  rw [e]
  unfold f_sub
  exact w1 (by omega) (by omega) (by omega)
theorem P_J6_bitCount_0f7a4 {J : JT} {Q : QT} (R : R_J6_bitCount_0f7a4 J Q) {as : List Vl} {M : Mem} (h : nf G_J6_bitCount_0f7a4 as M Q) : (enL as).length ≤ 1 ∧ J 0 (padL 1 (enL as)) [] M := by
  unfold nf G_J6_bitCount_0f7a4 at h
  split at h
  · rename_i a
    obtain ⟨⟨h1, h2⟩, hQ⟩ := h
    have e := bc_ok a.toNat (by omega)
    rw [show ((a.toNat : Nat) : Int) = a by omega] at e
    rw [← e] at hQ
    exact ⟨Nat.le_of_ble_eq_true rfl, R_J6_bitCount_0f7a4_0 R hQ⟩
  · exact h.elim
theorem P_X10_lowestOf {J : JT} {Q : QT} (R : R_X10_lowestOf J Q) {as : List Vl} {M : Mem} (h : nf G_X10_lowestOf as M Q) : (enL as).length ≤ 1 ∧ J 0 (padL 1 (enL as)) [] M := by
  unfold nf G_X10_lowestOf at h
  split at h
  · rename_i a
    obtain ⟨⟨h1, h2⟩, hQ⟩ := h
    obtain ⟨e, e2, e3⟩ := lo_ok a.toNat (by omega) (by omega)
    rw [show ((a.toNat : Nat) : Int) = a by omega] at e
    refine ⟨Nat.le_of_ble_eq_true rfl, R_X10_lowestOf_0 R ?_⟩
    show (0 ≤ f_sub (andI a (w32 (-a))) 1 ∧ f_sub (andI a (w32 (-a))) 1 < 16384) ∧ Q (.inl (some (vI (popc (f_sub (andI a (w32 (-a))) 1).toNat : Nat)))) M
    rw [e]
    refine ⟨⟨by omega, by omega⟩, ?_⟩
    rw [Int.toNat_natCast, e2]
    exact hQ
  · exact h.elim
