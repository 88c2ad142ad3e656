theorem and_half (a b : Nat) : (a &&& b) / 2 = a / 2 &&& b / 2 := by
  refine Nat.eq_of_testBit_eq (fun i => ?_)
  rw [← Nat.testBit_succ, Nat.testBit_and, Nat.testBit_and, Nat.testBit_succ, Nat.testBit_succ]
theorem and_mod2 (a b : Nat) (h : a % 2 = 0 ∨ b % 2 = 0) : (a &&& b) % 2 = 0 := by
  have e : (a &&& b).testBit 0 = false := by
    rw [Nat.testBit_and, Nat.testBit_zero, Nat.testBit_zero]
    rcases h with h | h <;> simp [h]
  rw [Nat.testBit_zero] at e
  have := of_decide_eq_false e
  omega
theorem pop_step : ∀ f s, 0 < s → s < 2 ^ f → popF f (s &&& (s - 1)) + 1 = popF f s
  | 0, s, h0, h1 => by simp at h1; omega
  | f + 1, s, h0, h1 => by
    rw [Nat.pow_succ] at h1
    rw [popF, popF, and_half]
    by_cases ho : s % 2 = 1
    · have e : (s - 1) / 2 = s / 2 := by omega
      rw [and_mod2 s (s - 1) (Or.inr (by omega)), e, Nat.and_self]
      omega
    · have e : (s - 1) / 2 = s / 2 - 1 := by omega
      rw [and_mod2 s (s - 1) (Or.inl (by omega)), e]
      have := pop_step f (s / 2) (by omega) (by omega)
      omega
theorem pop_le : ∀ f s, popF f s ≤ f
  | 0, s => by simp [popF]
  | f + 1, s => by have := pop_le f (s / 2); rw [popF]; omega
def G_X11_ones : FN := fun as M Q => match as with
  | [.inl x] => (0 ≤ x ∧ x < 16384) ∧ Q (some (vI (popc x.toNat : Nat))) M
  | _ => False
def G_X11_rounded : FN := fun as M Q => match as with
  | [.inl w, .inl c] => (1 ≤ w ∧ w ≤ 99 ∧ 1 ≤ c ∧ c ≤ 99) ∧ Q (some (vI ((w + c - 1) / c))) M
  | _ => False
def G_X11_later : FN := fun as M Q => match as with
  | [.inr (.inl k), .inl m] => (k = 159 ∧ 0 ≤ m ∧ m ≤ 1000 ∧ 0 ≤ M 159 37 ∧ M 159 37 ≤ 1000) ∧ Q (some (vI (if M 159 36 ≤ m then m + M 159 37 else m))) M
  | _ => False
def b_X11_ones_0 : List AT := [tx_ic 0, tx_is 1, tx_il 0, tx_is 2, tx_fall 4]
def b_X11_ones_4 : List AT := [tx_il 2, tx_ifz r_eq 20, tx_il 2, tx_il 2, tx_ic 1, tx_bin f_sub, tx_bin andI, tx_is 2, tx_inc 1 1, tx_fall 4]
def b_X11_ones_20 : List AT := [tx_il 1, tx_ri]
def R_X11_ones (J : JT) (Q : QT) : Prop := (∀ ls st M, wpl J Q b_X11_ones_0 ls st M → J 0 ls st M) ∧ (∀ ls st M, wpl J Q b_X11_ones_4 ls st M → J 4 ls st M) ∧ (∀ ls st M, wpl J Q b_X11_ones_20 ls st M → J 20 ls st M)
theorem R_X11_ones_0 {J : JT} {Q : QT} (R : R_X11_ones J Q) {ls : Ls} {st : St} {M : Mem} (h : wpl J Q b_X11_ones_0 ls st M) : J 0 ls st M := R.1 ls st M h
theorem R_X11_ones_4 {J : JT} {Q : QT} (R : R_X11_ones J Q) {ls : Ls} {st : St} {M : Mem} (h : wpl J Q b_X11_ones_4 ls st M) : J 4 ls st M := R.2.1 ls st M h
theorem R_X11_ones_20 {J : JT} {Q : QT} (R : R_X11_ones J Q) {ls : Ls} {st : St} {M : Mem} (h : wpl J Q b_X11_ones_20 ls st M) : J 20 ls st M := R.2.2 ls st M h
def b_X11_rounded_0 : List AT := [tx_il 0, tx_il 1, tx_bin f_add, tx_ic 1, tx_bin f_sub, tx_il 1, tx_div, tx_ri]
def R_X11_rounded (J : JT) (Q : QT) : Prop := (∀ ls st M, wpl J Q b_X11_rounded_0 ls st M → J 0 ls st M)
theorem R_X11_rounded_0 {J : JT} {Q : QT} (R : R_X11_rounded J Q) {ls : Ls} {st : St} {M : Mem} (h : wpl J Q b_X11_rounded_0 ls st M) : J 0 ls st M := R ls st M h
def b_X11_later_0 : List AT := [tx_il 1, tx_al 0, tx_gi 11 36, tx_cmp r_lt 17, tx_il 1, tx_al 0, tx_gi 11 37, tx_bin f_add, tx_fall 18]
def b_X11_later_17 : List AT := [tx_il 1, tx_fall 18]
def b_X11_later_18 : List AT := [tx_ri]
def R_X11_later (J : JT) (Q : QT) : Prop := (∀ ls st M, wpl J Q b_X11_later_0 ls st M → J 0 ls st M) ∧ (∀ ls st M, wpl J Q b_X11_later_17 ls st M → J 17 ls st M) ∧ (∀ ls st M, wpl J Q b_X11_later_18 ls st M → J 18 ls st M)
theorem R_X11_later_0 {J : JT} {Q : QT} (R : R_X11_later J Q) {ls : Ls} {st : St} {M : Mem} (h : wpl J Q b_X11_later_0 ls st M) : J 0 ls st M := R.1 ls st M h
theorem R_X11_later_17 {J : JT} {Q : QT} (R : R_X11_later J Q) {ls : Ls} {st : St} {M : Mem} (h : wpl J Q b_X11_later_17 ls st M) : J 17 ls st M := R.2.1 ls st M h
theorem R_X11_later_18 {J : JT} {Q : QT} (R : R_X11_later J Q) {ls : Ls} {st : St} {M : Mem} (h : wpl J Q b_X11_later_18 ls st M) : J 18 ls st M := R.2.2 ls st M h
theorem P_X11_ones {J : JT} {Q : QT} (R : R_X11_ones J Q) {as : List Vl} {M : Mem} (h : nf G_X11_ones as M Q) : (enL as).length ≤ 3 ∧ J 0 (padL 3 (enL as)) [] M := by
  unfold nf G_X11_ones at h
  split at h
  · rename_i y
    obtain ⟨⟨y0, y1⟩, hQ⟩ := h
    have key : ∀ n s : Nat, s ≤ n → s < 16384 → ∀ (x acc : Int), x = (s : Int) → acc + ((popc s : Nat) : Int) = ((popc y.toNat : Nat) : Int) → 0 ≤ acc → J 4 [some (vI y), some (vI acc), some (vI x)] [] M := by
      intro n
      induction n with
      | zero =>
        intro s hs hl x acc hx ha a0
        have s0 : s = 0 := by omega
        subst s0
        have e : acc = ((popc y.toNat : Nat) : Int) := by
          have : popc 0 = 0 := by decide
          rw [this] at ha
          omega
        rw [e]
        exact R_X11_ones_4 R (bt (show x = 0 by omega) (R_X11_ones_20 R hQ))
      | succ n ih =>
        intro s hs hl x acc hx ha a0
        by_cases q : s = 0
        · subst q
          have e : acc = ((popc y.toNat : Nat) : Int) := by
            have : popc 0 = 0 := by decide
            rw [this] at ha
            omega
          rw [e]
          exact R_X11_ones_4 R (bt (show x = 0 by omega) (R_X11_ones_20 R hQ))
        · have ps : popc (s &&& (s - 1)) + 1 = popc s := pop_step 14 s (by omega) hl
          have pl : popc y.toNat ≤ 14 := pop_le 14 _
          have al := and_pred_lt (s := s) (by omega)
          have ea : andI x (f_sub x 1) = ((s &&& (s - 1) : Nat) : Int) := by rw [hx]; exact and_p (by omega) (by omega)
          refine R_X11_ones_4 R (bf (show ¬ x = 0 by omega) (ih (s &&& (s - 1)) (by omega) (by omega) _ _ ea ?_ ?_))
          · show w32 (acc + 1) + _ = _
            clear ea
            rw [w1 (x := acc + 1) (y := acc + 1) (by omega) (by omega) rfl]
            omega
          · show 0 ≤ w32 (acc + 1)
            clear ea
            rw [w1 (x := acc + 1) (y := acc + 1) (by omega) (by omega) rfl]
            omega
    exact ⟨Nat.le_of_ble_eq_true rfl, R_X11_ones_0 R (key y.toNat y.toNat (Nat.le_refl _) (by omega) y 0 (by omega) (by omega) (by decide))⟩
  · exact h.elim
theorem P_X11_rounded {J : JT} {Q : QT} (R : R_X11_rounded J Q) {as : List Vl} {M : Mem} (h : nf G_X11_rounded as M Q) : (enL as).length ≤ 2 ∧ J 0 (padL 2 (enL as)) [] M := by
  unfold nf G_X11_rounded at h
  split at h
  · rename_i w c
    obtain ⟨⟨w0, w9, c0, c9⟩, hQ⟩ := h
    have e : w32 ((f_sub (f_add w c) 1).tdiv c) = (w + c - 1) / c := by
      unfold f_sub f_add
      rw [w1 (x := w + c) (y := w + c) (by omega) (by omega) rfl, w1 (x := w + c - 1) (y := w + c - 1) (by omega) (by omega) rfl, Int.tdiv_eq_ediv_of_nonneg (by omega)]
      have q1 : 0 ≤ (w + c - 1) / c := Int.ediv_nonneg (by omega) (by omega)
      have q2 : (w + c - 1) / c ≤ w + c - 1 := Int.ediv_le_self _ (by omega)
      exact w1 (by omega) (by omega) rfl
    rw [← e] at hQ
    exact ⟨Nat.le_of_ble_eq_true rfl, R_X11_rounded_0 R (an (show c ≠ 0 by omega) hQ)⟩
  · exact h.elim
theorem P_X11_later {J : JT} {Q : QT} (R : R_X11_later J Q) {as : List Vl} {M : Mem} (h : nf G_X11_later as M Q) : (enL as).length ≤ 2 ∧ J 0 (padL 2 (enL as)) [] M := by
  unfold nf G_X11_later at h
  split at h
  · rename_i k m
    obtain ⟨⟨rfl, m0, m1, l0, l1⟩, hQ⟩ := h
    refine ⟨Nat.le_of_ble_eq_true rfl, R_X11_later_0 R (an o159 (br (fun g => R_X11_later_17 R (R_X11_later_18 R ?_)) (fun g => an o159 (R_X11_later_18 R ?_))))⟩
    · have g : m < M 159 36 := g
      rw [if_neg (by omega)] at hQ
      exact hQ
    · have g : ¬ m < M 159 36 := g
      rw [if_pos (by omega)] at hQ
      have e : f_add m (M 159 37) = m + M 159 37 := w1 (by omega) (by omega) rfl
      rw [← e] at hQ
      exact hQ

  · exact h.elim