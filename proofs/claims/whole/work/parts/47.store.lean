/-! Ballots and Loans: to put, to empty, to copy -/
def G_X0_add : FN := fun as M Q => match as with
  | [.inr (.inl k), .inl a, .inl b, .inl c] => (k = 35 ∧ 0 ≤ M 35 0 ∧ M 35 0 < 9) ∧ ∀ M' : Mem, (∀ u v, ¬ (u = 35 ∧ v = 0) → ¬ (36 ≤ u ∧ u ≤ 38 ∧ v = (M 35 0).toNat) → M' u v = M u v) → M' 35 0 = M 35 0 + 1 → M' 36 (M 35 0).toNat = a → M' 37 (M 35 0).toNat = b → M' 38 (M 35 0).toNat = c → Q none M'
  | _ => False
def G_X0_clear : FN := fun as M Q => match as with
  | [.inr (.inl k)] => BalAt k ∧ Q none (up M k 0 0)
  | _ => False
def G_X5_clear : FN := fun as M Q => match as with
  | [.inr (.inl k)] => LoanAt k ∧ Q none (up M k 0 0)
  | _ => False
def G_X0_copyFrom : FN := fun as M Q => match as with
  | [.inr (.inl k), .inr (.inl j)] => (BalAt k ∧ BalAt j ∧ k ≠ j) ∧ ∀ M' : Mem, (∀ u v, (u < k ∨ k + 3 < u) → M' u v = M u v) → M' k 0 = M j 0 → (∀ c v, 1 ≤ c → c ≤ 3 → v < 9 → M' (k + c) v = M (j + c) v) → Q none M'
  | _ => False
def G_X5_copyFrom : FN := fun as M Q => match as with
  | [.inr (.inl k), .inr (.inl j)] => (LoanAt k ∧ LoanAt j ∧ k ≠ j) ∧ ∀ M' : Mem, (∀ u v, (u < k ∨ k + 4 < u) → M' u v = M u v) → M' k 0 = M j 0 → (∀ c v, 1 ≤ c → c ≤ 4 → v < 20 → M' (k + c) v = M (j + c) v) → Q none M'
  | _ => False
def b_X0_add_0 : List AT := tx_al 0 :: tx_gi 0 0 :: tx_ic 9 :: tx_cmp r_ge 49 :: tx_al 0 :: tx_gr 0 1 :: tx_al 0 :: tx_gi 0 0 :: tx_il 1 :: tx_iax :: tx_al 0 :: tx_gr 0 2 :: tx_al 0 :: tx_gi 0 0 :: tx_il 2 :: tx_iax :: tx_al 0 :: tx_gr 0 3 :: tx_al 0 :: tx_gi 0 0 :: tx_il 3 :: tx_iax :: tx_al 0 :: tx_dup :: tx_gi 0 0 :: tx_ic 1 :: tx_bin f_add :: tx_pi 0 0 :: tx_fall 49 :: []
def b_X0_add_49 : List AT := [tx_rv]
def R_X0_add (J : JT) (Q : QT) : Prop := (∀ ls st M, wpl J Q b_X0_add_0 ls st M → J 0 ls st M) ∧ (∀ ls st M, wpl J Q b_X0_add_49 ls st M → J 49 ls st M)
theorem R_X0_add_0 {J : JT} {Q : QT} (R : R_X0_add J Q) {ls : Ls} {st : St} {M : Mem} (h : wpl J Q b_X0_add_0 ls st M) : J 0 ls st M := R.1 ls st M h
theorem R_X0_add_49 {J : JT} {Q : QT} (R : R_X0_add J Q) {ls : Ls} {st : St} {M : Mem} (h : wpl J Q b_X0_add_49 ls st M) : J 49 ls st M := R.2 ls st M h
def b_X0_clear_0 : List AT := [tx_al 0, tx_ic 0, tx_pi 0 0, tx_rv]
def R_X0_clear (J : JT) (Q : QT) : Prop := (∀ ls st M, wpl J Q b_X0_clear_0 ls st M → J 0 ls st M)
theorem R_X0_clear_0 {J : JT} {Q : QT} (R : R_X0_clear J Q) {ls : Ls} {st : St} {M : Mem} (h : wpl J Q b_X0_clear_0 ls st M) : J 0 ls st M := R ls st M h
def b_X5_clear_0 : List AT := [tx_al 0, tx_ic 0, tx_pi 5 0, tx_rv]
def R_X5_clear (J : JT) (Q : QT) : Prop := (∀ ls st M, wpl J Q b_X5_clear_0 ls st M → J 0 ls st M)
theorem R_X5_clear_0 {J : JT} {Q : QT} (R : R_X5_clear J Q) {ls : Ls} {st : St} {M : Mem} (h : wpl J Q b_X5_clear_0 ls st M) : J 0 ls st M := R ls st M h
def b_X0_copyFrom_0 : List AT := tx_al 0 :: tx_al 1 :: tx_gi 0 0 :: tx_pi 0 0 :: tx_al 1 :: tx_gr 0 1 :: tx_ic 0 :: tx_al 0 :: tx_gr 0 1 :: tx_ic 0 :: tx_ic 9 :: tx_acp :: tx_al 1 :: tx_gr 0 2 :: tx_ic 0 :: tx_al 0 :: tx_gr 0 2 :: tx_ic 0 :: tx_ic 9 :: tx_acp :: tx_al 1 :: tx_gr 0 3 :: tx_ic 0 :: tx_al 0 :: tx_gr 0 3 :: tx_ic 0 :: tx_ic 9 :: tx_acp :: tx_rv :: []
def R_X0_copyFrom (J : JT) (Q : QT) : Prop := (∀ ls st M, wpl J Q b_X0_copyFrom_0 ls st M → J 0 ls st M)
theorem R_X0_copyFrom_0 {J : JT} {Q : QT} (R : R_X0_copyFrom J Q) {ls : Ls} {st : St} {M : Mem} (h : wpl J Q b_X0_copyFrom_0 ls st M) : J 0 ls st M := R ls st M h
def b_X5_copyFrom_0 : List AT := tx_al 0 :: tx_al 1 :: tx_gi 5 0 :: tx_pi 5 0 :: tx_al 1 :: tx_gr 5 1 :: tx_ic 0 :: tx_al 0 :: tx_gr 5 1 :: tx_ic 0 :: tx_ic 20 :: tx_acp :: tx_al 1 :: tx_gr 5 2 :: tx_ic 0 :: tx_al 0 :: tx_gr 5 2 :: tx_ic 0 :: tx_ic 20 :: tx_acp :: tx_al 1 :: tx_gr 5 3 :: tx_ic 0 :: tx_al 0 :: tx_gr 5 3 :: tx_ic 0 :: tx_ic 20 :: tx_acp :: tx_al 1 :: tx_gr 5 4 :: tx_ic 0 :: tx_al 0 :: tx_gr 5 4 :: tx_ic 0 :: tx_ic 20 :: tx_acp :: tx_rv :: []
def R_X5_copyFrom (J : JT) (Q : QT) : Prop := (∀ ls st M, wpl J Q b_X5_copyFrom_0 ls st M → J 0 ls st M)
theorem R_X5_copyFrom_0 {J : JT} {Q : QT} (R : R_X5_copyFrom J Q) {ls : Ls} {st : St} {M : Mem} (h : wpl J Q b_X5_copyFrom_0 ls st M) : J 0 ls st M := R ls st M h
theorem P_X0_clear {J : JT} {Q : QT} (R : R_X0_clear J Q) {as : List Vl} {M : Mem} (h : nf G_X0_clear as M Q) : (enL as).length ≤ 1 ∧ J 0 (padL 1 (enL as)) [] M := by
  unfold nf G_X0_clear at h
  split at h
  · rename_i k
    obtain ⟨hk, hQ⟩ := h
    exact ⟨Nat.le_of_ble_eq_true rfl, R_X0_clear_0 R (an (ba_ob hk) hQ)⟩
  · exact h.elim
theorem P_X5_clear {J : JT} {Q : QT} (R : R_X5_clear J Q) {as : List Vl} {M : Mem} (h : nf G_X5_clear as M Q) : (enL as).length ≤ 1 ∧ J 0 (padL 1 (enL as)) [] M := by
  unfold nf G_X5_clear at h
  split at h
  · rename_i k
    obtain ⟨hk, hQ⟩ := h
    exact ⟨Nat.le_of_ble_eq_true rfl, R_X5_clear_0 R (an (lo_ob hk) hQ)⟩
  · exact h.elim
theorem P_X0_add {J : JT} {Q : QT} (R : R_X0_add J Q) {as : List Vl} {M : Mem} (h : nf G_X0_add as M Q) : (enL as).length ≤ 4 ∧ J 0 (padL 4 (enL as)) [] M := by
  unfold nf G_X0_add at h
  split at h
  · rename_i k a b c
    obtain ⟨⟨rfl, n0, n9⟩, hQ⟩ := h
    have sh : ∀ j, 1 ≤ j → j ≤ 3 → SH (35 + j) = (1, 9, 0, 0) := fun j h1 h2 => ba_n (Or.inl rfl) h1 h2
    refine ⟨Nat.le_of_ble_eq_true rfl, R_X0_add_0 R (an o35 (bf (show ¬ (9 : Int) ≤ M 35 0 by omega) (an o35 (an o35 (an (ak_of (sh 1 (by decide) (by decide)) (by omega) (by omega)) (an o35 (an o35 ?_)))))))⟩
    generalize hn : M 35 0 = n at n0 n9 hQ
    generalize hM1 : up M (35 + 1) n.toNat a = M1
    have k1 : M1 35 0 = n := by rw [← hM1, up_ne (by omega)]; exact hn
    refine an (show AK 1 37 (M1 35 0) by rw [k1]; exact ak_of (sh 2 (by decide) (by decide)) (by omega) (by omega)) (an o35 (an o35 ?_))
    rw [k1]
    generalize hM2 : up M1 (35 + 2) n.toNat b = M2
    have k2 : M2 35 0 = n := by rw [← hM2, up_ne (by omega)]; exact k1
    refine an (show AK 1 38 (M2 35 0) by rw [k2]; exact ak_of (sh 3 (by decide) (by decide)) (by omega) (by omega)) (an o35 (an o35 ?_))
    rw [k2]
    generalize hM3 : up M2 (35 + 3) n.toNat c = M3
    have k3 : M3 35 0 = n := by rw [← hM3, up_ne (by omega)]; exact k2
    refine R_X0_add_49 R (hQ _ (fun u v h1 h2 => ?_) ?_ ?_ ?_ ?_)
    · rw [up_ne (by omega), ← hM3, up_ne (by omega), ← hM2, up_ne (by omega), ← hM1, up_ne (by omega)]
    · rw [up_eq, k3]
      exact w1 (by omega) (by omega) rfl
    · rw [up_ne (by omega), ← hM3, up_ne (by omega), ← hM2, up_ne (by omega), ← hM1]; exact up_eq
    · rw [up_ne (by omega), ← hM3, up_ne (by omega), ← hM2]; exact up_eq
    · rw [up_ne (by omega), ← hM3]; exact up_eq
  · exact h.elim
theorem ak_c2 {a b n : Nat} (ha : SH a = (1, n, 0, 0)) (hb : SH b = (1, n, 0, 0)) (hab : a ≠ b) : (SH a).1 = 1 ∧ (SH b).1 = 1 ∧ a ≠ b ∧ (0 : Int) ≤ (n : Int) ∧ (0 : Int) ≤ 0 ∧ (0 : Int) ≤ 0 ∧ (0 : Int) + (n : Int) ≤ ((SH a).2.1 : Int) ∧ (0 : Int) + (n : Int) ≤ ((SH b).2.1 : Int) := ak_cp (n := 0) ha hb hab (by omega) (by omega) (by omega) (by omega) (by omega)
theorem P_X0_copyFrom {J : JT} {Q : QT} (R : R_X0_copyFrom J Q) {as : List Vl} {M : Mem} (h : nf G_X0_copyFrom as M Q) : (enL as).length ≤ 2 ∧ J 0 (padL 2 (enL as)) [] M := by
  unfold nf G_X0_copyFrom at h
  split at h
  · rename_i k j
    obtain ⟨⟨hk, hj, hkj⟩, hQ⟩ := h
    have gap : k + 3 < j ∨ j + 3 < k := by
      rcases hk with rfl | rfl | rfl | rfl <;> rcases hj with rfl | rfl | rfl | rfl <;> omega
    have c : ∀ c, 1 ≤ c → c ≤ 3 → (SH (j + c)).1 = 1 ∧ (SH (k + c)).1 = 1 ∧ j + c ≠ k + c ∧ (0 : Int) ≤ 9 ∧ (0 : Int) ≤ 0 ∧ (0 : Int) ≤ 0 ∧ (0 : Int) + 9 ≤ ((SH (j + c)).2.1 : Int) ∧ (0 : Int) + 9 ≤ ((SH (k + c)).2.1 : Int) := fun c q1 q2 => ak_c2 (n := 9) (ba_n hj q1 q2) (ba_n hk q1 q2) (by omega)
    refine ⟨Nat.le_of_ble_eq_true rfl, R_X0_copyFrom_0 R (an (ba_ob hj) (an (ba_ob hk) (an (ba_ob hj) (an (ba_ob hk) (an (c 1 (by decide) (by decide)) (an (ba_ob hj) (an (ba_ob hk) (an (c 2 (by decide) (by decide)) (an (ba_ob hj) (an (ba_ob hk) (an (c 3 (by decide) (by decide)) ?_)))))))))))⟩
    show Q (.inl none) (cpy (cpy (cpy (up M k 0 (M j 0)) (j + 1) 0 (k + 1) 0 9) (j + 2) 0 (k + 2) 0 9) (j + 3) 0 (k + 3) 0 9)
    refine hQ _ (fun u v hu => ?_) ?_ (fun c v h1 h3 hv => ?_)
    · rw [cpy_ne (by omega), cpy_ne (by omega), cpy_ne (by omega), up_ne (by omega)]
    · rw [cpy_ne (by omega), cpy_ne (by omega), cpy_ne (by omega)]; exact up_eq
    · rcases (show c = 1 ∨ c = 2 ∨ c = 3 by omega) with rfl | rfl | rfl
      · rw [cpy_ne (by omega), cpy_ne (by omega), cpy_eq hv, up_ne (by omega)]
      · rw [cpy_ne (by omega), cpy_eq hv, cpy_ne (by omega), up_ne (by omega)]
      · rw [cpy_eq hv, cpy_ne (by omega), cpy_ne (by omega), up_ne (by omega)]
  · exact h.elim
theorem P_X5_copyFrom {J : JT} {Q : QT} (R : R_X5_copyFrom J Q) {as : List Vl} {M : Mem} (h : nf G_X5_copyFrom as M Q) : (enL as).length ≤ 2 ∧ J 0 (padL 2 (enL as)) [] M := by
  unfold nf G_X5_copyFrom at h
  split at h
  · rename_i k j
    obtain ⟨⟨hk, hj, hkj⟩, hQ⟩ := h
    have gap : k + 4 < j ∨ j + 4 < k := by
      rcases hk with rfl | rfl | rfl | rfl | rfl | rfl | rfl | rfl <;> rcases hj with rfl | rfl | rfl | rfl | rfl | rfl | rfl | rfl <;> omega
    have c : ∀ c, 1 ≤ c → c ≤ 4 → (SH (j + c)).1 = 1 ∧ (SH (k + c)).1 = 1 ∧ j + c ≠ k + c ∧ (0 : Int) ≤ 20 ∧ (0 : Int) ≤ 0 ∧ (0 : Int) ≤ 0 ∧ (0 : Int) + 20 ≤ ((SH (j + c)).2.1 : Int) ∧ (0 : Int) + 20 ≤ ((SH (k + c)).2.1 : Int) := fun c q1 q2 => ak_c2 (n := 20) (lo_n hj q1 q2) (lo_n hk q1 q2) (by omega)
    refine ⟨Nat.le_of_ble_eq_true rfl, R_X5_copyFrom_0 R (an (lo_ob hj) (an (lo_ob hk) (an (lo_ob hj) (an (lo_ob hk) (an (c 1 (by decide) (by decide)) (an (lo_ob hj) (an (lo_ob hk) (an (c 2 (by decide) (by decide)) (an (lo_ob hj) (an (lo_ob hk) (an (c 3 (by decide) (by decide)) (an (lo_ob hj) (an (lo_ob hk) (an (c 4 (by decide) (by decide)) ?_))))))))))))))⟩
    show Q (.inl none) (cpy (cpy (cpy (cpy (up M k 0 (M j 0)) (j + 1) 0 (k + 1) 0 20) (j + 2) 0 (k + 2) 0 20) (j + 3) 0 (k + 3) 0 20) (j + 4) 0 (k + 4) 0 20)
    refine hQ _ (fun u v hu => ?_) ?_ (fun c v h1 h3 hv => ?_)
    · rw [cpy_ne (by omega), cpy_ne (by omega), cpy_ne (by omega), cpy_ne (by omega), up_ne (by omega)]
    · rw [cpy_ne (by omega), cpy_ne (by omega), cpy_ne (by omega), cpy_ne (by omega)]; exact up_eq
    · rcases (show c = 1 ∨ c = 2 ∨ c = 3 ∨ c = 4 by omega) with rfl | rfl | rfl | rfl
      · rw [cpy_ne (by omega), cpy_ne (by omega), cpy_ne (by omega), cpy_eq hv, up_ne (by omega)]
      · rw [cpy_ne (by omega), cpy_ne (by omega), cpy_eq hv, cpy_ne (by omega), up_ne (by omega)]
      · rw [cpy_ne (by omega), cpy_eq hv, cpy_ne (by omega), cpy_ne (by omega), up_ne (by omega)]
      · rw [cpy_eq hv, cpy_ne (by omega), cpy_ne (by omega), cpy_ne (by omega), up_ne (by omega)]

  · exact h.elim