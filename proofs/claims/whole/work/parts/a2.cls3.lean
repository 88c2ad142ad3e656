
theorem sum3 {Ab : Mem} {h : Nat → Int} : ∀ n : Nat, sumN (fun t => Ab 1 t) n = sumN (fun t => if h t = -1 then Ab 1 t else 0) n + sumN (fun t => if isW (h t) = 1 then Ab 1 t else 0) n + sumN (fun t => if h t = -2 then Ab 1 t else 0) n
  | 0 => rfl
  | n + 1 => by
    have ih := sum3 (Ab := Ab) (h := h) n
    rw [sumN, sumN, sumN, sumN, ih]
    unfold isW
    by_cases q1 : h n = -1
    · rw [if_pos q1, if_pos q1, if_neg (by decide), if_neg (by omega)]; omega
    · rw [if_neg q1, if_neg q1]
      by_cases q2 : h n = -2
      · rw [if_pos q2, if_neg (by decide), if_pos q2]; omega
      · rw [if_neg q2, if_pos rfl, if_neg q2]; omega
theorem isW0 (x : Int) : isW x = 0 ↔ x = -1 := by
  unfold isW
  split
  · rename_i h; simp [h]
  · rename_i h
    split <;> simp [h]
theorem isW2 (x : Int) : isW x = 2 ↔ x = -2 := by
  unfold isW
  split
  · rename_i h; simp [h]
  · split
    · rename_i h; simp [h]
    · rename_i h; simp [h]
theorem eu_pos : ∀ (f : Nat) {a b : Int}, 0 ≤ a → 0 ≤ b → b ≤ (f : Int) → (0 < a ∨ 0 < b) → 0 < eu f a b
  | 0, a, b, h1, h2, h3, h4 => by rw [eu]; omega
  | f + 1, a, b, h1, h2, h3, h4 => by
    rw [eu]
    by_cases q : b ≤ 0
    · rw [if_pos q]; omega
    · rw [if_neg q]
      have t1 : a.tmod b = a % b := Int.tmod_eq_emod_of_nonneg h1
      have t2 := Int.emod_nonneg a (show b ≠ 0 by omega)
      have t3 := Int.emod_lt_of_pos a (show 0 < b by omega)
      exact eu_pos f (by omega) (by omega) (by omega) (by omega)
theorem pbN_or (c d : Nat → Bool) (n : Nat) : pbN c n ||| pbN d n = pbN (fun i => c i || d i) n := by
  refine Nat.eq_of_testBit_eq (fun i => ?_)
  rw [Nat.testBit_or]
  by_cases q : i < n
  · rw [pbN_bit c n i q, pbN_bit d n i q, pbN_bit _ n i q]
  · have h1 : ∀ e : Nat → Bool, (pbN e n).testBit i = false := fun e => Nat.testBit_lt_two_pow (Nat.lt_of_lt_of_le (pbN_lt e n) (Nat.pow_le_pow_right (by decide) (by omega)))
    rw [h1, h1, h1]
    rfl

def F_X10_sums : FT := fun as M Q => match as with
  | [.inr (.inl k), .inl m, .inl w] => k = 0 ∧ cS (an_sums m w) M Q
  | _ => False
def F_X10_least : FT := fun as M Q => match as with
  | [.inr (.inl k), .inl m, .inl w] => k = 0 ∧ cS (an_least m w) M Q
  | _ => False
def F_X10_power : FT := fun as M Q => match as with
  | [.inr (.inl k), .inl p] => k = 0 ∧ cS (an_power p) M Q
  | _ => False
def F_X10_wins : FT := fun as M Q => match as with
  | [.inr (.inl k), .inl x] => k = 0 ∧ cS (an_wins x) M Q
  | _ => False
def F_X10_owed : FT := fun as M Q => match as with
  | [.inr (.inl k), .inl q, .inl pot, .inl w] => k = 0 ∧ cS (an_owed q pot w) M Q
  | _ => False
def G_X10_powers : FN := fun as M Q => match as with
  | [.inr (.inl k)] => k = 0 ∧ cN an_powers M Q
  | _ => False
def G_X10_together : FN := fun as M Q => match as with
  | [.inr (.inl k), .inl i] => k = 0 ∧ cN (an_together i) M Q
  | _ => False
def G_X10_status : FN := fun as M Q => match as with
  | [.inr (.inl k), .inl w] => k = 0 ∧ cN (an_status w) M Q
  | _ => False
def G_X10_count : FN := fun as M Q => match as with
  | [.inr (.inl k), .inl w] => k = 0 ∧ cN (an_count w) M Q
  | _ => False
def b_X10_sums_0 : List AT := [tx_al 0, tx_il 1, tx_call (nf G_X10_isMinute) 1, tx_ifz r_eq 21, tx_il 2, tx_ifz r_lt 21, tx_il 2, tx_ic 2, tx_cmp r_gt 21, tx_ic 1, tx_fall 22]
def b_X10_sums_21 : List AT := [tx_ic 0, tx_fall 22]
def b_X10_sums_22 : List AT := [tx_callv 10 F_X10_needArgument 1, tx_il 2, tx_sw [(0, 52), (1, 62)] 91]
def b_X10_sums_52 : List AT := [tx_al 0, tx_callv 10 (nf G_X10_chronicled) 0, tx_ic (-1), tx_il 1, tx_callv 3 (nf G_X3_poundsWith) 2, tx_ri]
def b_X10_sums_62 : List AT := [tx_al 0, tx_gm 10 1, tx_callv 6 (nf G_X6_allPounds) 0, tx_al 0, tx_callv 10 (nf G_X10_chronicled) 0, tx_ic (-1), tx_il 1, tx_callv 3 (nf G_X3_poundsWith) 2, tx_bin f_sub, tx_al 0, tx_callv 10 (nf G_X10_chronicled) 0, tx_ic (-2), tx_il 1, tx_callv 3 (nf G_X3_poundsWith) 2, tx_bin f_sub, tx_ri]
def b_X10_sums_91 : List AT := [tx_al 0, tx_callv 10 (nf G_X10_chronicled) 0, tx_ic (-2), tx_il 1, tx_callv 3 (nf G_X3_poundsWith) 2, tx_ri]
def R_X10_sums (J : JT) (Q : QT) : Prop := (∀ ls st M, wpl J Q b_X10_sums_0 ls st M → J 0 ls st M) ∧ (∀ ls st M, wpl J Q b_X10_sums_21 ls st M → J 21 ls st M) ∧ (∀ ls st M, wpl J Q b_X10_sums_22 ls st M → J 22 ls st M) ∧ (∀ ls st M, wpl J Q b_X10_sums_52 ls st M → J 52 ls st M) ∧ (∀ ls st M, wpl J Q b_X10_sums_62 ls st M → J 62 ls st M) ∧ (∀ ls st M, wpl J Q b_X10_sums_91 ls st M → J 91 ls st M)
theorem R_X10_sums_0 {J : JT} {Q : QT} (R : R_X10_sums J Q) {ls : Ls} {st : St} {M : Mem} (h : wpl J Q b_X10_sums_0 ls st M) : J 0 ls st M := R.1 ls st M h
theorem R_X10_sums_21 {J : JT} {Q : QT} (R : R_X10_sums J Q) {ls : Ls} {st : St} {M : Mem} (h : wpl J Q b_X10_sums_21 ls st M) : J 21 ls st M := R.2.1 ls st M h
theorem R_X10_sums_22 {J : JT} {Q : QT} (R : R_X10_sums J Q) {ls : Ls} {st : St} {M : Mem} (h : wpl J Q b_X10_sums_22 ls st M) : J 22 ls st M := R.2.2.1 ls st M h
theorem R_X10_sums_52 {J : JT} {Q : QT} (R : R_X10_sums J Q) {ls : Ls} {st : St} {M : Mem} (h : wpl J Q b_X10_sums_52 ls st M) : J 52 ls st M := R.2.2.2.1 ls st M h
theorem R_X10_sums_62 {J : JT} {Q : QT} (R : R_X10_sums J Q) {ls : Ls} {st : St} {M : Mem} (h : wpl J Q b_X10_sums_62 ls st M) : J 62 ls st M := R.2.2.2.2.1 ls st M h
theorem R_X10_sums_91 {J : JT} {Q : QT} (R : R_X10_sums J Q) {ls : Ls} {st : St} {M : Mem} (h : wpl J Q b_X10_sums_91 ls st M) : J 91 ls st M := R.2.2.2.2.2 ls st M h
def b_X10_least_0 : List AT := [tx_al 0, tx_al 0, tx_gm 10 1, tx_il 1, tx_callv 6 (nf G_X6_hasMotion) 1, tx_callv 10 F_X10_needElement 1, tx_al 0, tx_il 2, tx_ifz r_eq 22, tx_il 2, tx_ic 1, tx_cmp r_ne 26, tx_fall 22]
def b_X10_least_22 : List AT := [tx_ic 1, tx_fall 27]
def b_X10_least_26 : List AT := [tx_ic 0, tx_fall 27]
def b_X10_least_27 : List AT := [tx_callv 10 F_X10_needArgument 1, tx_al 0, tx_gr 10 117, tx_al 0, tx_gm 10 1, tx_il 1, tx_al 0, tx_callv 10 (nf G_X10_chronicled) 0, tx_il 1, tx_ic 0, tx_ic 1, tx_callv 3 (nf G_X3_counted) 3, tx_callv 2 (nf G_X2_find) 3, tx_il 2, tx_ifz r_ne 66, tx_al 0, tx_gr 10 117, tx_gi 2 6, tx_fall 73]
def b_X10_least_66 : List AT := [tx_al 0, tx_gr 10 117, tx_gi 2 7, tx_fall 73]
def b_X10_least_73 : List AT := [tx_ri]
def R_X10_least (J : JT) (Q : QT) : Prop := (∀ ls st M, wpl J Q b_X10_least_0 ls st M → J 0 ls st M) ∧ (∀ ls st M, wpl J Q b_X10_least_22 ls st M → J 22 ls st M) ∧ (∀ ls st M, wpl J Q b_X10_least_26 ls st M → J 26 ls st M) ∧ (∀ ls st M, wpl J Q b_X10_least_27 ls st M → J 27 ls st M) ∧ (∀ ls st M, wpl J Q b_X10_least_66 ls st M → J 66 ls st M) ∧ (∀ ls st M, wpl J Q b_X10_least_73 ls st M → J 73 ls st M)
theorem R_X10_least_0 {J : JT} {Q : QT} (R : R_X10_least J Q) {ls : Ls} {st : St} {M : Mem} (h : wpl J Q b_X10_least_0 ls st M) : J 0 ls st M := R.1 ls st M h
theorem R_X10_least_22 {J : JT} {Q : QT} (R : R_X10_least J Q) {ls : Ls} {st : St} {M : Mem} (h : wpl J Q b_X10_least_22 ls st M) : J 22 ls st M := R.2.1 ls st M h
theorem R_X10_least_26 {J : JT} {Q : QT} (R : R_X10_least J Q) {ls : Ls} {st : St} {M : Mem} (h : wpl J Q b_X10_least_26 ls st M) : J 26 ls st M := R.2.2.1 ls st M h
theorem R_X10_least_27 {J : JT} {Q : QT} (R : R_X10_least J Q) {ls : Ls} {st : St} {M : Mem} (h : wpl J Q b_X10_least_27 ls st M) : J 27 ls st M := R.2.2.2.1 ls st M h
theorem R_X10_least_66 {J : JT} {Q : QT} (R : R_X10_least J Q) {ls : Ls} {st : St} {M : Mem} (h : wpl J Q b_X10_least_66 ls st M) : J 66 ls st M := R.2.2.2.2.1 ls st M h
theorem R_X10_least_73 {J : JT} {Q : QT} (R : R_X10_least J Q) {ls : Ls} {st : St} {M : Mem} (h : wpl J Q b_X10_least_73 ls st M) : J 73 ls st M := R.2.2.2.2.2 ls st M h
def b_X10_power_0 : List AT := [tx_al 0, tx_al 0, tx_gm 10 1, tx_il 1, tx_callv 6 (nf G_X6_hasPerson) 1, tx_callv 10 F_X10_needElement 1, tx_al 0, tx_gr 10 125, tx_al 0, tx_gm 10 1, tx_callv 7 (nf G_X7_weighPersons) 1, tx_al 0, tx_gr 10 125, tx_il 1, tx_callv 7 (nf G_X7_swingsOf) 1, tx_ri]
def R_X10_power (J : JT) (Q : QT) : Prop := (∀ ls st M, wpl J Q b_X10_power_0 ls st M → J 0 ls st M)
theorem R_X10_power_0 {J : JT} {Q : QT} (R : R_X10_power J Q) {ls : Ls} {st : St} {M : Mem} (h : wpl J Q b_X10_power_0 ls st M) : J 0 ls st M := R ls st M h
def b_X10_wins_0 : List AT := [tx_al 0, tx_il 1, tx_ifz r_lt 15, tx_il 1, tx_ic 16, tx_cmp r_ge 15, tx_ic 1, tx_fall 16]
def b_X10_wins_15 : List AT := [tx_ic 0, tx_fall 16]
def b_X10_wins_16 : List AT := [tx_callv 10 F_X10_needArgument 1, tx_al 0, tx_gr 10 125, tx_al 0, tx_gm 10 1, tx_callv 7 (nf G_X7_weighParties) 1, tx_al 0, tx_gr 10 125, tx_il 1, tx_callv 7 (nf G_X7_isWinning) 1, tx_rz]
def R_X10_wins (J : JT) (Q : QT) : Prop := (∀ ls st M, wpl J Q b_X10_wins_0 ls st M → J 0 ls st M) ∧ (∀ ls st M, wpl J Q b_X10_wins_15 ls st M → J 15 ls st M) ∧ (∀ ls st M, wpl J Q b_X10_wins_16 ls st M → J 16 ls st M)
theorem R_X10_wins_0 {J : JT} {Q : QT} (R : R_X10_wins J Q) {ls : Ls} {st : St} {M : Mem} (h : wpl J Q b_X10_wins_0 ls st M) : J 0 ls st M := R.1 ls st M h
theorem R_X10_wins_15 {J : JT} {Q : QT} (R : R_X10_wins J Q) {ls : Ls} {st : St} {M : Mem} (h : wpl J Q b_X10_wins_15 ls st M) : J 15 ls st M := R.2.1 ls st M h
theorem R_X10_wins_16 {J : JT} {Q : QT} (R : R_X10_wins J Q) {ls : Ls} {st : St} {M : Mem} (h : wpl J Q b_X10_wins_16 ls st M) : J 16 ls st M := R.2.2 ls st M h
def b_X10_owed_0 : List AT := [tx_al 0, tx_il 1, tx_ifz r_lt 34, tx_il 1, tx_ic 4, tx_cmp r_ge 34, tx_il 2, tx_ifz r_lt 34, tx_il 2, tx_ic 9999, tx_cmp r_gt 34, tx_il 3, tx_ifz r_eq 30, tx_il 3, tx_ic 1, tx_cmp r_ne 34, tx_fall 30]
def b_X10_owed_30 : List AT := [tx_ic 1, tx_fall 35]
def b_X10_owed_34 : List AT := [tx_ic 0, tx_fall 35]
def b_X10_owed_35 : List AT := [tx_callv 10 F_X10_needArgument 1, tx_al 0, tx_gr 10 125, tx_al 0, tx_gm 10 1, tx_callv 7 (nf G_X7_weighParties) 1, tx_il 2, tx_al 0, tx_gr 10 125, tx_il 1, tx_callv 7 (nf G_X7_ordersTurnedBy) 1, tx_bin f_mul, tx_is 4, tx_il 4, tx_ic 24, tx_call (nf G_X10_greatestShared) 2, tx_is 5, tx_il 3, tx_ifz r_ne 79, tx_il 4, tx_fall 81]
def b_X10_owed_79 : List AT := [tx_ic 24, tx_fall 81]
def b_X10_owed_81 : List AT := [tx_il 5, tx_call (nf G_X10_cut) 2, tx_ri]
def R_X10_owed (J : JT) (Q : QT) : Prop := (∀ ls st M, wpl J Q b_X10_owed_0 ls st M → J 0 ls st M) ∧ (∀ ls st M, wpl J Q b_X10_owed_30 ls st M → J 30 ls st M) ∧ (∀ ls st M, wpl J Q b_X10_owed_34 ls st M → J 34 ls st M) ∧ (∀ ls st M, wpl J Q b_X10_owed_35 ls st M → J 35 ls st M) ∧ (∀ ls st M, wpl J Q b_X10_owed_79 ls st M → J 79 ls st M) ∧ (∀ ls st M, wpl J Q b_X10_owed_81 ls st M → J 81 ls st M)
theorem R_X10_owed_0 {J : JT} {Q : QT} (R : R_X10_owed J Q) {ls : Ls} {st : St} {M : Mem} (h : wpl J Q b_X10_owed_0 ls st M) : J 0 ls st M := R.1 ls st M h
theorem R_X10_owed_30 {J : JT} {Q : QT} (R : R_X10_owed J Q) {ls : Ls} {st : St} {M : Mem} (h : wpl J Q b_X10_owed_30 ls st M) : J 30 ls st M := R.2.1 ls st M h
theorem R_X10_owed_34 {J : JT} {Q : QT} (R : R_X10_owed J Q) {ls : Ls} {st : St} {M : Mem} (h : wpl J Q b_X10_owed_34 ls st M) : J 34 ls st M := R.2.2.1 ls st M h
theorem R_X10_owed_35 {J : JT} {Q : QT} (R : R_X10_owed J Q) {ls : Ls} {st : St} {M : Mem} (h : wpl J Q b_X10_owed_35 ls st M) : J 35 ls st M := R.2.2.2.1 ls st M h
theorem R_X10_owed_79 {J : JT} {Q : QT} (R : R_X10_owed J Q) {ls : Ls} {st : St} {M : Mem} (h : wpl J Q b_X10_owed_79 ls st M) : J 79 ls st M := R.2.2.2.2.1 ls st M h
theorem R_X10_owed_81 {J : JT} {Q : QT} (R : R_X10_owed J Q) {ls : Ls} {st : St} {M : Mem} (h : wpl J Q b_X10_owed_81 ls st M) : J 81 ls st M := R.2.2.2.2.2 ls st M h
def b_X10_powers_0 : List AT := [tx_al 0, tx_gr 10 125, tx_al 0, tx_gm 10 1, tx_callv 7 (nf G_X7_weighPersons) 1, tx_ic 0, tx_is 1, tx_ic 0, tx_is 2, tx_fall 15]
def b_X10_powers_15 : List AT := [tx_il 2, tx_al 0, tx_gm 10 1, tx_gi 6 0, tx_cmp r_ge 43, tx_il 1, tx_al 0, tx_gr 10 125, tx_il 2, tx_callv 7 (nf G_X7_swingsOf) 1, tx_bin f_add, tx_is 1, tx_inc 2 1, tx_fall 15]
def b_X10_powers_43 : List AT := [tx_il 1, tx_ri]
def R_X10_powers (J : JT) (Q : QT) : Prop := (∀ ls st M, wpl J Q b_X10_powers_0 ls st M → J 0 ls st M) ∧ (∀ ls st M, wpl J Q b_X10_powers_15 ls st M → J 15 ls st M) ∧ (∀ ls st M, wpl J Q b_X10_powers_43 ls st M → J 43 ls st M)
theorem R_X10_powers_0 {J : JT} {Q : QT} (R : R_X10_powers J Q) {ls : Ls} {st : St} {M : Mem} (h : wpl J Q b_X10_powers_0 ls st M) : J 0 ls st M := R.1 ls st M h
theorem R_X10_powers_15 {J : JT} {Q : QT} (R : R_X10_powers J Q) {ls : Ls} {st : St} {M : Mem} (h : wpl J Q b_X10_powers_15 ls st M) : J 15 ls st M := R.2.1 ls st M h
theorem R_X10_powers_43 {J : JT} {Q : QT} (R : R_X10_powers J Q) {ls : Ls} {st : St} {M : Mem} (h : wpl J Q b_X10_powers_43 ls st M) : J 43 ls st M := R.2.2 ls st M h
def b_X10_together_0 : List AT := [tx_al 0, tx_gr 10 125, tx_al 0, tx_gm 10 1, tx_callv 7 (nf G_X7_weighParties) 1, tx_ic 0, tx_is 2, tx_ic 0, tx_is 3, tx_fall 15]
def b_X10_together_15 : List AT := [tx_il 3, tx_ic 16, tx_cmp r_ge 48, tx_al 0, tx_gr 10 125, tx_il 3, tx_callv 7 (nf G_X7_isHoldingTogether) 1, tx_ifz r_eq 42, tx_il 2, tx_il 1, tx_cmp r_ne 39, tx_il 3, tx_ri]
def b_X10_together_39 : List AT := [tx_inc 2 1, tx_fall 42]
def b_X10_together_42 : List AT := [tx_inc 3 1, tx_fall 15]
def b_X10_together_48 : List AT := [tx_ic (-1), tx_ri]
def R_X10_together (J : JT) (Q : QT) : Prop := (∀ ls st M, wpl J Q b_X10_together_0 ls st M → J 0 ls st M) ∧ (∀ ls st M, wpl J Q b_X10_together_15 ls st M → J 15 ls st M) ∧ (∀ ls st M, wpl J Q b_X10_together_39 ls st M → J 39 ls st M) ∧ (∀ ls st M, wpl J Q b_X10_together_42 ls st M → J 42 ls st M) ∧ (∀ ls st M, wpl J Q b_X10_together_48 ls st M → J 48 ls st M)
theorem R_X10_together_0 {J : JT} {Q : QT} (R : R_X10_together J Q) {ls : Ls} {st : St} {M : Mem} (h : wpl J Q b_X10_together_0 ls st M) : J 0 ls st M := R.1 ls st M h
theorem R_X10_together_15 {J : JT} {Q : QT} (R : R_X10_together J Q) {ls : Ls} {st : St} {M : Mem} (h : wpl J Q b_X10_together_15 ls st M) : J 15 ls st M := R.2.1 ls st M h
theorem R_X10_together_39 {J : JT} {Q : QT} (R : R_X10_together J Q) {ls : Ls} {st : St} {M : Mem} (h : wpl J Q b_X10_together_39 ls st M) : J 39 ls st M := R.2.2.1 ls st M h
theorem R_X10_together_42 {J : JT} {Q : QT} (R : R_X10_together J Q) {ls : Ls} {st : St} {M : Mem} (h : wpl J Q b_X10_together_42 ls st M) : J 42 ls st M := R.2.2.2.1 ls st M h
theorem R_X10_together_48 {J : JT} {Q : QT} (R : R_X10_together J Q) {ls : Ls} {st : St} {M : Mem} (h : wpl J Q b_X10_together_48 ls st M) : J 48 ls st M := R.2.2.2.2 ls st M h
def b_X10_status_0 : List AT := [tx_il 1, tx_ifz r_ne 9, tx_al 0, tx_gi 10 16, tx_ri]
def b_X10_status_9 : List AT := [tx_il 1, tx_ic 1, tx_cmp r_ne 21, tx_al 0, tx_gi 10 17, tx_fall 22]
def b_X10_status_21 : List AT := [tx_ic (-1), tx_fall 22]
def b_X10_status_22 : List AT := [tx_ri]
def R_X10_status (J : JT) (Q : QT) : Prop := (∀ ls st M, wpl J Q b_X10_status_0 ls st M → J 0 ls st M) ∧ (∀ ls st M, wpl J Q b_X10_status_9 ls st M → J 9 ls st M) ∧ (∀ ls st M, wpl J Q b_X10_status_21 ls st M → J 21 ls st M) ∧ (∀ ls st M, wpl J Q b_X10_status_22 ls st M → J 22 ls st M)
theorem R_X10_status_0 {J : JT} {Q : QT} (R : R_X10_status J Q) {ls : Ls} {st : St} {M : Mem} (h : wpl J Q b_X10_status_0 ls st M) : J 0 ls st M := R.1 ls st M h
theorem R_X10_status_9 {J : JT} {Q : QT} (R : R_X10_status J Q) {ls : Ls} {st : St} {M : Mem} (h : wpl J Q b_X10_status_9 ls st M) : J 9 ls st M := R.2.1 ls st M h
theorem R_X10_status_21 {J : JT} {Q : QT} (R : R_X10_status J Q) {ls : Ls} {st : St} {M : Mem} (h : wpl J Q b_X10_status_21 ls st M) : J 21 ls st M := R.2.2.1 ls st M h
theorem R_X10_status_22 {J : JT} {Q : QT} (R : R_X10_status J Q) {ls : Ls} {st : St} {M : Mem} (h : wpl J Q b_X10_status_22 ls st M) : J 22 ls st M := R.2.2.2 ls st M h
def b_X10_count_0 : List AT := [tx_il 1, tx_sw [(0, 28), (1, 36), (2, 41)] 49]
def b_X10_count_28 : List AT := [tx_al 0, tx_gr 10 35, tx_gi 0 0, tx_ri]
def b_X10_count_36 : List AT := [tx_al 0, tx_gi 10 8, tx_ri]
def b_X10_count_41 : List AT := [tx_al 0, tx_gr 10 1, tx_gi 9 1, tx_ri]
def b_X10_count_49 : List AT := [tx_ic (-1), tx_ri]
def R_X10_count (J : JT) (Q : QT) : Prop := (∀ ls st M, wpl J Q b_X10_count_0 ls st M → J 0 ls st M) ∧ (∀ ls st M, wpl J Q b_X10_count_28 ls st M → J 28 ls st M) ∧ (∀ ls st M, wpl J Q b_X10_count_36 ls st M → J 36 ls st M) ∧ (∀ ls st M, wpl J Q b_X10_count_41 ls st M → J 41 ls st M) ∧ (∀ ls st M, wpl J Q b_X10_count_49 ls st M → J 49 ls st M)
theorem R_X10_count_0 {J : JT} {Q : QT} (R : R_X10_count J Q) {ls : Ls} {st : St} {M : Mem} (h : wpl J Q b_X10_count_0 ls st M) : J 0 ls st M := R.1 ls st M h
theorem R_X10_count_28 {J : JT} {Q : QT} (R : R_X10_count J Q) {ls : Ls} {st : St} {M : Mem} (h : wpl J Q b_X10_count_28 ls st M) : J 28 ls st M := R.2.1 ls st M h
theorem R_X10_count_36 {J : JT} {Q : QT} (R : R_X10_count J Q) {ls : Ls} {st : St} {M : Mem} (h : wpl J Q b_X10_count_36 ls st M) : J 36 ls st M := R.2.2.1 ls st M h
theorem R_X10_count_41 {J : JT} {Q : QT} (R : R_X10_count J Q) {ls : Ls} {st : St} {M : Mem} (h : wpl J Q b_X10_count_41 ls st M) : J 41 ls st M := R.2.2.2.1 ls st M h
theorem R_X10_count_49 {J : JT} {Q : QT} (R : R_X10_count J Q) {ls : Ls} {st : St} {M : Mem} (h : wpl J Q b_X10_count_49 ls st M) : J 49 ls st M := R.2.2.2.2 ls st M h
theorem P_X10_sums {J : JT} {Q : QT} (R : R_X10_sums J Q) {as : List Vl} {M : Mem} (h : F_X10_sums as M Q) : (enL as).length ≤ 3 ∧ J 0 (padL 3 (enL as)) [] M := by
  unfold F_X10_sums at h
  split at h
  · rename_i k m w
    obtain ⟨rfl, s, hM, hQ⟩ := h
    have hpl := hM.pl
    have hk := hpl.1
    have hp := hpl.2.1
    have ho := hpl.2.2
    have no2 : ¬ ((0 ≤ m ∧ m < 120) ∧ (0 ≤ w ∧ w ≤ 2)) → an_sums m w s = nay s 2 := fun c => if_pos c
    have ea : ((0 ≤ m ∧ m < 120) ∧ (0 ≤ w ∧ w ≤ 2)) → an_sums m w s = _ := fun c2 => if_neg (fun z => z c2)
    have atB : ∀ b : Int, (b = 1 ∧ ((0 ≤ m ∧ m < 120) ∧ (0 ≤ w ∧ w ≤ 2))) ∨ (b = 0 ∧ ¬ ((0 ≤ m ∧ m < 120) ∧ (0 ≤ w ∧ w ≤ 2))) → J 22 [some (vR 0), some (vI m), some (vI w)] [vI b, vR 0] M := by
      intro b hb
      rcases hb with ⟨rfl, c2⟩ | ⟨rfl, c2⟩
      · refine R_X10_sums_22 R (an o0 ⟨rfl, fun _ => ?_, fun z => absurd z (by decide)⟩)
        have ea := ea c2
        have fin : ∀ (M2 : Mem) (v : Int), Cls M2 s → CF M M2 → v = sumN (fun t => if isW (run s.1 (-1) (m.toNat + 1) 0 t) = w then s.1 1 t else 0) (nT s.1) → Q (.inl (some (vI v))) M2 := fun M2 v h2 cf hv => c_yes ea h2 cf hv hQ
        have hs : ∀ (M2 : Mem) (x : Int), ChrRel M2 s.1 → sumN (fun t => if M2 66 (14 * m.toNat + t) = x then s.1 1 t else 0) (nT s.1) = sumN (fun t => if run s.1 (-1) (m.toNat + 1) 0 t = x then s.1 1 t else 0) (nT s.1) := fun M2 x hc => sumN_cong (fun t ht => by rw [hc.2.1 m.toNat t (by omega) ht])
        generalize run s.1 (-1) (m.toNat + 1) 0 = h at fin hs
        rcases (show w = 0 ∨ w = 1 ∨ w = 2 by omega) with rfl | rfl | rfl
        · refine bt rfl (R_X10_sums_52 R (an o0 (use_chr hM (fun M2 h2 cf hc _ => an o41 ⟨s.1, hc.1, ⟨rfl, c2.1.1, c2.1.2⟩, fin M2 _ h2 cf ?_⟩))))
          rw [hs M2 _ hc]
          exact sumN_cong (fun t _ => if_iff (isW0 _).symm)
        · refine bf (by decide) (bt rfl (R_X10_sums_62 R (an o0 (an (pl_ob hk) ⟨s.1, hpl, an o0 (use_chr hM (fun M2 h2 cf hc _ => an o41 ⟨s.1, hc.1, ⟨rfl, c2.1.1, c2.1.2⟩, an o0 (use_chr h2 (fun M3 h3 cf3 hc3 _ => an o41 ⟨s.1, hc3.1, ⟨rfl, c2.1.1, c2.1.2⟩, fin M3 _ h3 (fun u v hu => (cf3 u v hu).trans (cf u v hu)) ?_⟩))⟩))⟩))))
          rw [hs M2 _ hc, hs M3 _ hc3]
          have b1 := wt_bd ho (c := fun t => h t = -1) (Nat.le_refl _)
          have b2 := wt_bd ho (c := fun t => h t = -2) (Nat.le_refl _)
          have b3 := all_bd ho
          have b4 := wt_bd ho (c := fun t => isW (h t) = 1) (Nat.le_refl _)
          have s3 : allP s.1 = _ := sum3 (Ab := s.1) (h := h) (nT s.1)
          unfold f_sub
          rw [w1 (x := allP s.1 - sumN (fun t => if h t = -1 then s.1 1 t else 0) (nT s.1)) (y := allP s.1 - sumN (fun t => if h t = -1 then s.1 1 t else 0) (nT s.1)) (by omega) (by omega) rfl]
          exact w1 (by omega) (by omega) (by omega)
        · refine bf (by decide) (bf (by decide) (R_X10_sums_91 R (an o0 (use_chr hM (fun M2 h2 cf hc _ => an o41 ⟨s.1, hc.1, ⟨rfl, c2.1.1, c2.1.2⟩, fin M2 _ h2 cf ?_⟩)))))
          rw [hs M2 _ hc]
          exact sumN_cong (fun t _ => if_iff (isW2 _).symm)
      · exact R_X10_sums_22 R (an o0 ⟨rfl, fun z => absurd rfl z, fun _ => c_no (Q := Q) hM 2 (by decide) (no2 c2) (CF.rf M) hQ⟩)
    exact ⟨Nat.le_of_ble_eq_true rfl, R_X10_sums_0 R (br (fun g3 => bf (by decide) (br (fun (g2 : w < 0) => R_X10_sums_21 R (atB 0 (Or.inr ⟨rfl, by omega⟩))) (fun (g2 : ¬ (w < 0)) => br (fun (g1 : 2 < w) => R_X10_sums_21 R (atB 0 (Or.inr ⟨rfl, by omega⟩))) (fun (g1 : ¬ (2 < w)) => atB 1 (Or.inl ⟨rfl, by omega⟩))))) (fun g3 => bt rfl (R_X10_sums_21 R (atB 0 (Or.inr ⟨rfl, by omega⟩)))))⟩
  · exact h.elim
theorem P_X10_least {J : JT} {Q : QT} (R : R_X10_least J Q) {as : List Vl} {M : Mem} (h : F_X10_least as M Q) : (enL as).length ≤ 3 ∧ J 0 (padL 3 (enL as)) [] M := by
  unfold F_X10_least at h
  split at h
  · rename_i k m w
    obtain ⟨rfl, s, hM, hQ⟩ := h
    have hpl := hM.pl
    have hk := hpl.1
    have hp := hpl.2.1
    have ho := hpl.2.2
    have no1 : ¬ (0 ≤ m ∧ m < s.1 10 4) → an_least m w s = nay s 1 := fun c => if_pos c
    have no2 : (0 ≤ m ∧ m < s.1 10 4) → ¬ (w = 0 ∨ w = 1) → an_least m w s = nay s 2 := fun c1 c2 => (if_neg (fun z => z c1)).trans (if_pos c2)
    have ea : (0 ≤ m ∧ m < s.1 10 4) → (w = 0 ∨ w = 1) → an_least m w s = _ := fun c1 c2 => (if_neg (fun z => z c1)).trans (if_neg (fun z => z c2))
    have atB : (0 ≤ m ∧ m < s.1 10 4) → ∀ b : Int, (b = 1 ∧ (w = 0 ∨ w = 1)) ∨ (b = 0 ∧ ¬ (w = 0 ∨ w = 1)) → J 27 [some (vR 0), some (vI m), some (vI w)] [vI b, vR 0] M := by
      intro c1 b hb
      rcases hb with ⟨rfl, c2⟩ | ⟨rfl, c2⟩
      · refine R_X10_least_27 R (an o0 ⟨rfl, fun _ => ?_, fun z => absurd z (by decide)⟩)
        have ea := ea c1 c2
        have n1 := nM_le ho
        refine an o0 (an o0 (an o0 (use_chr hM (fun M2 h2 cf hc fr => an o41 ⟨⟨rfl, c1.1, by omega, by decide, by decide, by decide, by decide⟩, ?_⟩))))
        have ec : M2 68 (ix m.toNat (Int.toNat 0) (Int.toNat 1)) = cnM s.1 m.toNat 0 1 := hc.2.2.2.1 m.toNat 0 1 (by omega) (by decide) (by decide)
        rw [ec]
        have cb := cn_nn ho m.toNat 0 1
        have pe : (M 0 1) = M2 0 1 := (fr _ _ (by omega)).symm
        refine an o117 ⟨s.1, rfl, by rw [pe]; exact h2.pl, c1, ⟨cb.1, by omega⟩, fun M3 f3 e6 e7 => ?_⟩
        have h3 : Cls M3 s := h2.kept (fun u v hu => f3 u v (by omega))
        have cf3 : CF M M3 := fun u v hu => (f3 u v (by omega)).trans (cf u v hu)
        have fin : ∀ v : Int, v = (if w = 0 then lpF s.1 m.toNat (cnM s.1 m.toNat 0 1) else lsF s.1 m.toNat (cnM s.1 m.toNat 0 1)) → J 73 [some (vR 0), some (vI m), some (vI w)] [vI v] M3 := fun v hv => R_X10_least_73 R (c_yes ea h3 cf3 hv hQ)
        refine br (fun g => R_X10_least_66 R (an o0 (an o117 (fin _ ?_)))) (fun g => an o0 (an o117 (fin _ ?_)))
        · have g : ¬ w = 0 := g
          rw [if_neg g]; exact e7
        · have g : w = 0 := Classical.not_not.mp g
          rw [if_pos g]; exact e6
      · exact R_X10_least_27 R (an o0 ⟨rfl, fun z => absurd rfl z, fun _ => c_no (Q := Q) hM 2 (by decide) (no2 c1 c2) (CF.rf M) hQ⟩)
    exact ⟨Nat.le_of_ble_eq_true rfl, R_X10_least_0 R (an o0 (an (pl_ob hk) ⟨s.1, hpl, br (fun c1 => an o0 ⟨rfl, fun _ => br (fun (g2 : w = 0) => R_X10_least_22 R (atB c1 1 (Or.inl ⟨rfl, by omega⟩))) (fun (g2 : ¬ (w = 0)) => br (fun (g1 : ¬ w = 1) => R_X10_least_26 R (atB c1 0 (Or.inr ⟨rfl, by omega⟩))) (fun (g1 : ¬ (¬ w = 1)) => R_X10_least_22 R (atB c1 1 (Or.inl ⟨rfl, by omega⟩)))), fun z => absurd z (by decide)⟩) (fun c1 => an o0 ⟨rfl, fun z => absurd rfl z, fun _ => c_no (Q := Q) hM 1 (by decide) (no1 c1) (CF.rf M) hQ⟩)⟩))⟩
  · exact h.elim
theorem P_X10_power {J : JT} {Q : QT} (R : R_X10_power J Q) {as : List Vl} {M : Mem} (h : F_X10_power as M Q) : (enL as).length ≤ 2 ∧ J 0 (padL 2 (enL as)) [] M := by
  unfold F_X10_power at h
  split at h
  · rename_i k p
    obtain ⟨rfl, s, hM, hQ⟩ := h
    have hpl := hM.pl
    have hk := hpl.1
    have hp := hpl.2.1
    have ho := hpl.2.2
    have no1 : ¬ (0 ≤ p ∧ p < s.1 10 1) → an_power p s = nay s 1 := fun c => if_pos c
    have ea : (0 ≤ p ∧ p < s.1 10 1) → an_power p s = _ := fun c1 => if_neg (fun z => z c1)
    refine ⟨Nat.le_of_ble_eq_true rfl, R_X10_power_0 R (an o0 (an (pl_ob hk) ⟨s.1, hpl, br (fun c1 => an o0 ⟨rfl, fun _ => ?_, fun z => absurd z (by decide)⟩) (fun c1 => an o0 ⟨rfl, fun z => absurd rfl z, fun _ => c_no (Q := Q) hM 1 (by decide) (no1 c1) (CF.rf M) hQ⟩)⟩))⟩
    have ea := ea c1
    exact an o0 (an o0 (an o125 ⟨s.1, rfl, hpl, fun M2 f2 sc => an o0 (an o125 ⟨s.1, ⟨rfl, c1.1, c1.2⟩, sc, c_yes ea (hM.kept (fun u v hu => f2 u v (by omega))) (fun u v hu => f2 u v (by omega)) rfl hQ⟩)⟩))
  · exact h.elim
theorem P_X10_wins {J : JT} {Q : QT} (R : R_X10_wins J Q) {as : List Vl} {M : Mem} (h : F_X10_wins as M Q) : (enL as).length ≤ 2 ∧ J 0 (padL 2 (enL as)) [] M := by
  unfold F_X10_wins at h
  split at h
  · rename_i k x
    obtain ⟨rfl, s, hM, hQ⟩ := h
    have hpl := hM.pl
    have hk := hpl.1
    have hp := hpl.2.1
    have ho := hpl.2.2
    have no2 : ¬ (0 ≤ x ∧ x < 16) → an_wins x s = nay s 2 := fun c => if_pos c
    have ea : (0 ≤ x ∧ x < 16) → an_wins x s = _ := fun c2 => if_neg (fun z => z c2)
    have atB : ∀ b : Int, (b = 1 ∧ (0 ≤ x ∧ x < 16)) ∨ (b = 0 ∧ ¬ (0 ≤ x ∧ x < 16)) → J 16 [some (vR 0), some (vI x)] [vI b, vR 0] M := by
      intro b hb
      rcases hb with ⟨rfl, c2⟩ | ⟨rfl, c2⟩
      · refine R_X10_wins_16 R (an o0 ⟨rfl, fun _ => ?_, fun z => absurd z (by decide)⟩)
        have ea := ea c2
        refine an o0 (an o0 (an o125 ⟨s.1, rfl, hpl, fun M2 f2 sc => an o0 (an o125 ⟨s.1, ⟨rfl, c2.1, c2.2⟩, sc, ?_⟩)⟩))
        have h2 : Cls M2 s := hM.kept (fun u v hu => f2 u v (by omega))
        have cf : CF M M2 := fun u v hu => f2 u v (by omega)
        exact br (fun d => an (Or.inr rfl) (c_yes ea h2 cf (if_pos d).symm hQ)) (fun d => an (Or.inl rfl) (c_yes ea h2 cf (if_neg d).symm hQ))
      · exact R_X10_wins_16 R (an o0 ⟨rfl, fun z => absurd rfl z, fun _ => c_no (Q := Q) hM 2 (by decide) (no2 c2) (CF.rf M) hQ⟩)
    exact ⟨Nat.le_of_ble_eq_true rfl, R_X10_wins_0 R (br (fun (g2 : x < 0) => R_X10_wins_15 R (atB 0 (Or.inr ⟨rfl, by omega⟩))) (fun (g2 : ¬ (x < 0)) => br (fun (g1 : 16 ≤ x) => R_X10_wins_15 R (atB 0 (Or.inr ⟨rfl, by omega⟩))) (fun (g1 : ¬ (16 ≤ x)) => atB 1 (Or.inl ⟨rfl, by omega⟩))))⟩
  · exact h.elim
theorem P_X10_owed {J : JT} {Q : QT} (R : R_X10_owed J Q) {as : List Vl} {M : Mem} (h : F_X10_owed as M Q) : (enL as).length ≤ 6 ∧ J 0 (padL 6 (enL as)) [] M := by
  unfold F_X10_owed at h
  split at h
  · rename_i k q pot w
    obtain ⟨rfl, s, hM, hQ⟩ := h
    have hpl := hM.pl
    have hk := hpl.1
    have hp := hpl.2.1
    have ho := hpl.2.2
    have no2 : ¬ ((0 ≤ q ∧ q < 4) ∧ (0 ≤ pot ∧ pot ≤ 9999) ∧ (w = 0 ∨ w = 1)) → an_owed q pot w s = nay s 2 := fun c => if_pos c
    have ea : ((0 ≤ q ∧ q < 4) ∧ (0 ≤ pot ∧ pot ≤ 9999) ∧ (w = 0 ∨ w = 1)) → an_owed q pot w s = _ := fun c2 => if_neg (fun z => z c2)
    have atB : ∀ b : Int, (b = 1 ∧ ((0 ≤ q ∧ q < 4) ∧ (0 ≤ pot ∧ pot ≤ 9999) ∧ (w = 0 ∨ w = 1))) ∨ (b = 0 ∧ ¬ ((0 ≤ q ∧ q < 4) ∧ (0 ≤ pot ∧ pot ≤ 9999) ∧ (w = 0 ∨ w = 1))) → J 35 [some (vR 0), some (vI q), some (vI pot), some (vI w), none, none] [vI b, vR 0] M := by
      intro b hb
      rcases hb with ⟨rfl, c2⟩ | ⟨rfl, c2⟩
      · refine R_X10_owed_35 R (an o0 ⟨rfl, fun _ => ?_, fun z => absurd z (by decide)⟩)
        have ea := ea c2
        obtain ⟨⟨q0, q3⟩, ⟨pt0, pt9⟩, hw⟩ := c2
        refine an o0 (an o0 (an o125 ⟨s.1, rfl, hpl, fun M2 f2 sc => an o0 (an o125 ⟨s.1, ⟨rfl, q0, q3⟩, sc, ?_⟩)⟩))
        have h2 : Cls M2 s := hM.kept (fun u v hu => f2 u v (by omega))
        have cf : CF M M2 := fun u v hu => f2 u v (by omega)
        have hb := ot_bd s.1 q.toNat (n := 16) (Nat.le_refl _)
        have hb' : 0 ≤ otF s.1 q.toNat ∧ otF s.1 q.toNat ≤ 96 := hb
        have a1 := Int.mul_nonneg pt0 hb'.1
        have a2 : pot * otF s.1 q.toNat ≤ 9999 * 96 := Int.mul_le_mul pt9 hb'.2 hb'.1 (by decide)
        have em : f_mul pot (otF s.1 q.toNat) = owV s.1 q pot := w1 (by unfold owV; omega) (by unfold owV; omega) rfl
        have ub : 0 ≤ owV s.1 q pot ∧ owV s.1 q pot ≤ 959904 := by unfold owV; omega
        show nf G_X10_greatestShared [.inl (f_mul pot (otF s.1 q.toNat)), .inl 24] M2 (aft Q _ [some (vR 0), some (vI q), some (vI pot), some (vI w), some (vI (f_mul pot (otF s.1 q.toNat))), none] [])
        rw [em]
        clear em
        generalize owV s.1 q pot = U at ub ea
        have ep := eu_pos 64 (a := U) (b := 24) ub.1 (by decide) (by decide) (Or.inr (by decide))
        refine ⟨⟨ub.1, by omega, by decide, by decide⟩, ?_⟩
        have fin : ∀ v : Int, 0 ≤ v ∧ v < 2147483648 → v = (if w = 0 then U else 24) → J 81 [some (vR 0), some (vI q), some (vI pot), some (vI w), some (vI U), some (vI (eu 64 U 24))] [vI v] M2 := fun v vb hv => R_X10_owed_81 R ⟨⟨ep, vb.1, vb.2⟩, c_yes ea h2 cf (by rw [hv]) hQ⟩
        refine br (fun g => R_X10_owed_79 R (fin 24 (by decide) ?_)) (fun g => fin U (by omega) ?_)
        · have g : ¬ w = 0 := g
          rw [if_neg g]
        · have g : w = 0 := Classical.not_not.mp g
          rw [if_pos g]
      · exact R_X10_owed_35 R (an o0 ⟨rfl, fun z => absurd rfl z, fun _ => c_no (Q := Q) hM 2 (by decide) (no2 c2) (CF.rf M) hQ⟩)
    exact ⟨Nat.le_of_ble_eq_true rfl, R_X10_owed_0 R (br (fun (g6 : q < 0) => R_X10_owed_34 R (atB 0 (Or.inr ⟨rfl, by omega⟩))) (fun (g6 : ¬ (q < 0)) => br (fun (g5 : 4 ≤ q) => R_X10_owed_34 R (atB 0 (Or.inr ⟨rfl, by omega⟩))) (fun (g5 : ¬ (4 ≤ q)) => br (fun (g4 : pot < 0) => R_X10_owed_34 R (atB 0 (Or.inr ⟨rfl, by omega⟩))) (fun (g4 : ¬ (pot < 0)) => br (fun (g3 : 9999 < pot) => R_X10_owed_34 R (atB 0 (Or.inr ⟨rfl, by omega⟩))) (fun (g3 : ¬ (9999 < pot)) => br (fun (g2 : w = 0) => R_X10_owed_30 R (atB 1 (Or.inl ⟨rfl, by omega⟩))) (fun (g2 : ¬ (w = 0)) => br (fun (g1 : ¬ w = 1) => R_X10_owed_34 R (atB 0 (Or.inr ⟨rfl, by omega⟩))) (fun (g1 : ¬ (¬ w = 1)) => R_X10_owed_30 R (atB 1 (Or.inl ⟨rfl, by omega⟩)))))))))⟩
  · exact h.elim
theorem P_X10_powers {J : JT} {Q : QT} (R : R_X10_powers J Q) {as : List Vl} {M : Mem} (h : nf G_X10_powers as M Q) : (enL as).length ≤ 3 ∧ J 0 (padL 3 (enL as)) [] M := by
  unfold nf G_X10_powers at h
  split at h
  · rename_i k
    obtain ⟨rfl, s, hM, hQ⟩ := h
    have hpl := hM.pl
    have hk := hpl.1
    have hp := hpl.2.1
    have ho := hpl.2.2
    refine ⟨Nat.le_of_ble_eq_true rfl, R_X10_powers_0 R (?_)⟩
    refine an o0 (an o0 (an o125 ⟨s.1, rfl, hpl, fun M2 f2 sc => ?_⟩))
    have h2 : Cls M2 s := hM.kept (fun u v hu => f2 u v (by omega))
    have cf : CF M M2 := fun u v hu => f2 u v (by omega)
    have hp2 := h2.pl
    obtain ⟨p1, p2⟩ := nP_le ho
    have key : ∀ i, i ≤ nP s.1 → ∀ (x acc : Int), x = (i : Int) → acc = sumN (swF s.1) i → J 15 [some (vR 0), some (vI acc), some (vI x)] [] M2 := by
      refine dn ?_ ?_
      · intro x acc hx ha
        rw [ha]
        exact R_X10_powers_15 R (an o0 (an (pl_ob hp2.1) (bt (show M2 (M2 0 1).toNat 0 ≤ x by rw [hp2.2.1.1]; omega) (R_X10_powers_43 R (hQ M2 cf h2)))))
      · intro i hi ih x acc hx ha
        have hxn : x.toNat = i := by omega
        have b0 := sumN_bd (f := swF s.1) (c := 1024) (by decide) (n := i) (fun j _ => sw_bd ho j)
        have b1 := sw_bd ho i
        refine R_X10_powers_15 R (an o0 (an (pl_ob hp2.1) (bf (show ¬ M2 (M2 0 1).toNat 0 ≤ x by rw [hp2.2.1.1]; omega) (an o0 (an o125 ⟨s.1, ⟨rfl, by omega, by omega⟩, sc, ih _ _ (wn hx (by omega)) ?_⟩)))))
        rw [hxn, sumN, ha]
        exact w1 (by omega) (by omega) rfl
    exact key 0 (Nat.zero_le _) _ _ rfl rfl
  · exact h.elim
theorem P_X10_together {J : JT} {Q : QT} (R : R_X10_together J Q) {as : List Vl} {M : Mem} (h : nf G_X10_together as M Q) : (enL as).length ≤ 4 ∧ J 0 (padL 4 (enL as)) [] M := by
  unfold nf G_X10_together at h
  split at h
  · rename_i k i
    obtain ⟨rfl, s, hM, hQ⟩ := h
    have hpl := hM.pl
    have hk := hpl.1
    have hp := hpl.2.1
    have ho := hpl.2.2
    refine ⟨Nat.le_of_ble_eq_true rfl, R_X10_together_0 R (?_)⟩
    refine an o0 (an o0 (an o125 ⟨s.1, rfl, hpl, fun M2 f2 sc => ?_⟩))
    have h2 : Cls M2 s := hM.kept (fun u v hu => f2 u v (by omega))
    have cf : CF M M2 := fun u v hu => f2 u v (by omega)
    have hQ' : ∀ v : Int, v = tgF s.1 i 16 0 → Q (.inl (some (vI v))) M2 := fun v hv => by rw [hv]; exact hQ M2 cf h2
    generalize hT : tgF s.1 i 16 0 = T at hQ'
    have key : ∀ a : Nat, a ≤ 16 → ∀ (x f : Int), x = (a : Int) → (0 ≤ f ∧ f ≤ (a : Int)) → T = tgF s.1 i (16 - a) f → J 15 [some (vR 0), some (vI i), some (vI f), some (vI x)] [] M2 := by
      refine dn ?_ ?_
      · intro x f hx hf ht
        exact R_X10_together_15 R (bt (show (16 : Int) ≤ x by omega) (R_X10_together_48 R (hQ' (-1) ht.symm)))
      · intro a ha ih x f hx hf ht
        have hxn : x.toNat = a := by omega
        have ea : 16 - a = (15 - a) + 1 := by omega
        have eb : 15 - (15 - a) = a := by omega
        have ec : 16 - (a + 1) = 15 - a := by omega
        rw [ea, tgF, eb] at ht
        refine R_X10_together_15 R (bf (show ¬ (16 : Int) ≤ x by omega) (an o0 (an o125 ⟨s.1, ⟨rfl, by omega, by omega⟩, sc, ?_⟩)))
        rw [hxn]
        refine br (fun d => bf (by decide) (br (fun g => R_X10_together_39 R (R_X10_together_42 R (ih _ _ (wn hx (by omega)) ?_ ?_))) (fun g => ?_))) (fun d => bt rfl (R_X10_together_42 R (ih _ _ (wn hx (by omega)) (by omega) ?_)))
        · rw [show w32 (f + 1) = f + 1 from w1 (by omega) (by omega) rfl]; omega
        · have g : ¬ f = i := g
          rw [if_pos (tf_iff.mpr d), if_neg g] at ht
          rw [ec, show w32 (f + 1) = f + 1 from w1 (by omega) (by omega) rfl]
          exact ht
        · have g : f = i := Classical.not_not.mp g
          rw [if_pos (tf_iff.mpr d), if_pos g] at ht
          exact hQ' x (by rw [ht]; exact hx)
        · rw [if_neg (fun z => d (tf_iff.mp z))] at ht
          rw [ec]
          exact ht
    exact key 0 (by decide) _ _ rfl (by decide) hT.symm
  · exact h.elim
theorem P_X10_status {J : JT} {Q : QT} (R : R_X10_status J Q) {as : List Vl} {M : Mem} (h : nf G_X10_status as M Q) : (enL as).length ≤ 2 ∧ J 0 (padL 2 (enL as)) [] M := by
  unfold nf G_X10_status at h
  split at h
  · rename_i k w
    obtain ⟨rfl, s, hM, hQ⟩ := h
    have hpl := hM.pl
    have hk := hpl.1
    have hp := hpl.2.1
    have ho := hpl.2.2
    refine ⟨Nat.le_of_ble_eq_true rfl, R_X10_status_0 R (?_)⟩
    have rr := hM.2.2.2.2.2.2.1
    have fin : ∀ v : Int, v = (if w = 0 then s.2.1 10 10 else if w = 1 then s.2.1 10 11 else -1) → Q (.inl (some (vI v))) M := fun v hv => by rw [hv]; exact hQ M (CF.rf M) hM
    refine br (fun g => R_X10_status_9 R (br (fun g2 => R_X10_status_21 R (R_X10_status_22 R (fin _ ?_))) (fun g2 => an o0 (R_X10_status_22 R (fin _ ?_))))) (fun g => an o0 (fin _ ?_))
    · rw [if_neg g, if_neg g2]
    · rw [if_neg g, if_pos (Classical.not_not.mp g2)]; exact rr.2
    · rw [if_pos (Classical.not_not.mp g)]; exact rr.1
  · exact h.elim
theorem P_X10_count {J : JT} {Q : QT} (R : R_X10_count J Q) {as : List Vl} {M : Mem} (h : nf G_X10_count as M Q) : (enL as).length ≤ 2 ∧ J 0 (padL 2 (enL as)) [] M := by
  unfold nf G_X10_count at h
  split at h
  · rename_i k w
    obtain ⟨rfl, s, hM, hQ⟩ := h
    have hpl := hM.pl
    have hk := hpl.1
    have hp := hpl.2.1
    have ho := hpl.2.2
    refine ⟨Nat.le_of_ble_eq_true rfl, R_X10_count_0 R (?_)⟩
    have fin : ∀ v : Int, v = (if w = 0 then s.1 10 6 else if w = 1 then s.2.1 10 7 else if w = 2 then s.2.1 10 8 else -1) → Q (.inl (some (vI v))) M := fun v hv => by rw [hv]; exact hQ M (CF.rf M) hM
    refine br (fun g => R_X10_count_28 R (an o0 (an o35 (fin _ ?_)))) (fun g => br (fun g2 => R_X10_count_36 R (an o0 (fin _ ?_))) (fun g2 => br (fun g3 => R_X10_count_41 R (an o0 (an o1 (fin _ ?_)))) (fun g3 => R_X10_count_49 R (fin _ ?_))))
    · rw [if_pos g]; exact hM.2.2.2.1.1.1
    · rw [if_neg g, if_pos g2]; exact hM.2.2.2.2.1.2.1
    · rw [if_neg g, if_neg g2, if_pos g3]; exact hM.2.2.2.2.2.1.2.1
    · rw [if_neg g, if_neg g2, if_neg g3]

  · exact h.elim