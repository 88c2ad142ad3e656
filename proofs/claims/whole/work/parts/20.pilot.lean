/-! the cells by their owners -/
def PlanAt (k : Nat) : Prop := k = 3 ∨ k = 14 ∨ k = 43 ∨ k = 70 ∨ k = 94
theorem pl_ob {k : Nat} (h : PlanAt k) : OB k 6 := by
  rcases h with rfl | rfl | rfl | rfl | rfl <;> exact ⟨rfl, rfl⟩
theorem pl_sh {k : Nat} (h : PlanAt k) : SH (k + 1) = (1, 10, 0, 0) ∧ SH (k + 2) = (1, 10, 0, 0) ∧ SH (k + 3) = (1, 14, 0, 0) ∧ SH (k + 4) = (1, 14, 0, 0) ∧ SH (k + 5) = (1, 14, 0, 0) ∧ SH (k + 6) = (1, 14, 0, 0) ∧ SH (k + 7) = (1, 3, 0, 0) ∧ SH (k + 8) = (1, 8, 0, 0) ∧ SH (k + 9) = (1, 8, 0, 0) ∧ SH (k + 10) = (1, 8, 0, 0) := by
  rcases h with rfl | rfl | rfl | rfl | rfl <;> exact ⟨rfl, rfl, rfl, rfl, rfl, rfl, rfl, rfl, rfl, rfl⟩
theorem ak_of {a n x y : Nat} {i : Int} (h : SH a = (1, n, x, y)) (h0 : 0 ≤ i) (h1 : i < (n : Int)) : AK 1 a i := ⟨by rw [h], h0, by rw [h]; exact h1⟩
theorem an {a b : Prop} (h1 : a) (h2 : b) : a ∧ b := ⟨h1, h2⟩
theorem br {a b c : Prop} (h1 : c → a) (h2 : ¬ c → b) : (c → a) ∧ (¬ c → b) := ⟨h1, h2⟩
def ownS (M : Mem) (k : Nat) (p : Int) : Nat → Int
  | 0 => 0
  | t + 1 => if M (k + 3) t = p then w32 (ownS M k p t + M (k + 4) t) else ownS M k p t
def G_X6_ownPounds : FN := fun as M Q => match as with
  | [.inr (.inl k), .inl p] => (PlanAt k ∧ 0 ≤ M k 3 ∧ M k 3 ≤ 14) ∧ Q (some (vI (ownS M k p (M k 3).toNat))) M
  | _ => False
def b_X6_ownPounds_0 : List AT := [tx_ic 0, tx_is 2, tx_ic 0, tx_is 3, tx_fall 4]
def b_X6_ownPounds_4 : List AT := [tx_il 3, tx_al 0, tx_gi 6 3, tx_cmp r_ge 37, tx_al 0, tx_gr 6 3, tx_il 3, tx_ia, tx_il 1, tx_cmp r_ne 31, tx_il 2, tx_al 0, tx_gr 6 4, tx_il 3, tx_ia, tx_bin f_add, tx_is 2, tx_fall 31]
def b_X6_ownPounds_31 : List AT := [tx_inc 3 1, tx_fall 4]
def b_X6_ownPounds_37 : List AT := [tx_il 2, tx_ri]
def R_X6_ownPounds (J : JT) (Q : QT) : Prop := (∀ ls st M, wpl J Q b_X6_ownPounds_0 ls st M → J 0 ls st M) ∧ (∀ ls st M, wpl J Q b_X6_ownPounds_4 ls st M → J 4 ls st M) ∧ (∀ ls st M, wpl J Q b_X6_ownPounds_31 ls st M → J 31 ls st M) ∧ (∀ ls st M, wpl J Q b_X6_ownPounds_37 ls st M → J 37 ls st M)
theorem R_X6_ownPounds_0 {J : JT} {Q : QT} (R : R_X6_ownPounds J Q) {ls : Ls} {st : St} {M : Mem} (h : wpl J Q b_X6_ownPounds_0 ls st M) : J 0 ls st M := R.1 ls st M h
theorem R_X6_ownPounds_4 {J : JT} {Q : QT} (R : R_X6_ownPounds J Q) {ls : Ls} {st : St} {M : Mem} (h : wpl J Q b_X6_ownPounds_4 ls st M) : J 4 ls st M := R.2.1 ls st M h
theorem R_X6_ownPounds_31 {J : JT} {Q : QT} (R : R_X6_ownPounds J Q) {ls : Ls} {st : St} {M : Mem} (h : wpl J Q b_X6_ownPounds_31 ls st M) : J 31 ls st M := R.2.2.1 ls st M h
theorem R_X6_ownPounds_37 {J : JT} {Q : QT} (R : R_X6_ownPounds J Q) {ls : Ls} {st : St} {M : Mem} (h : wpl J Q b_X6_ownPounds_37 ls st M) : J 37 ls st M := R.2.2.2 ls st M h
theorem w1 {x y : Int} (h0 : -1000000000 ≤ y) (h : y < 1000000000) (e : x = y) : w32 x = y := by
  subst e
  unfold w32
  omega
theorem P_own_loop {J : JT} {Q : QT} (R : R_X6_ownPounds J Q) {k : Nat} {p : Int} {M : Mem} (hk : PlanAt k) (h0 : 0 ≤ M k 3) (h1 : M k 3 ≤ 14) (hQ : Q (.inl (some (vI (ownS M k p (M k 3).toNat)))) M) :
    ∀ (n t : Nat) (x : Int), x = (t : Int) → (t : Int) + (n : Int) = M k 3 → J 4 [some (vR k), some (vI p), some (vI (ownS M k p t)), some (vI x)] [] M := by
  intro n
  induction n with
  | zero =>
    intro t x hx ht
    have e : (M k 3).toNat = t := by omega
    rw [e] at hQ
    exact R_X6_ownPounds_4 R (an (pl_ob hk) (br (fun _ => R_X6_ownPounds_37 R hQ) (fun q => absurd (show M k 3 ≤ x by omega) q)))
  | succ n ih =>
    intro t x hx ht
    have hi := ih (t + 1) (w32 (x + 1)) (w1 (by omega) (by omega) (by omega)) (by omega)
    rw [ownS] at hi
    refine R_X6_ownPounds_4 R (an (pl_ob hk) (br (fun q => absurd q (by show ¬ M k 3 ≤ x; omega)) (fun q => an (pl_ob hk) (an (ak_of (pl_sh hk).2.2.1 (by omega) (by omega)) (br (fun q2 => ?_) (fun q2 => ?_))))))
    · have q3 : ¬ M (k + 3) t = p := by rw [hx] at q2; exact q2
      rw [if_neg q3] at hi
      exact R_X6_ownPounds_31 R hi
    · have q3 : M (k + 3) t = p := by rw [hx] at q2; exact Classical.not_not.mp q2
      rw [if_pos q3] at hi
      refine an (pl_ob hk) (an (ak_of (pl_sh hk).2.2.2.1 (by omega) (by omega)) (R_X6_ownPounds_31 R ?_))
      rw [hx] at hi ⊢
      exact hi
theorem P_X6_ownPounds {J : JT} {Q : QT} (R : R_X6_ownPounds J Q) {as : List Vl} {M : Mem} (h : nf G_X6_ownPounds as M Q) : (enL as).length ≤ 4 ∧ J 0 (padL 4 (enL as)) [] M := by
  unfold nf G_X6_ownPounds at h
  split at h
  · rename_i k p
    obtain ⟨⟨hk, h0, h1⟩, hQ⟩ := h
    exact ⟨Nat.le_of_ble_eq_true rfl, R_X6_ownPounds_0 R (P_own_loop R hk h0 h1 hQ (M k 3).toNat 0 0 rfl (by omega))⟩
  · exact h.elim
