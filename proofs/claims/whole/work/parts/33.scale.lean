/-! Scales -/
def ownN (Ab : Mem) (p : Nat) : Int := ownP Ab (p : Int)
def ptO (Ab : Mem) (q : Nat) : Int := sumN (fun p => if Ab 4 p = (q : Int) then ownN Ab p else 0) (nP Ab)
def winB (Ab : Mem) (x : Nat) : Bool := decide (allP Ab < 2 * wS (ptO Ab) x 4)
def swC (Ab : Mem) (p s : Nat) : Bool := !s.testBit p && !decide (allP Ab < 2 * wS (ownN Ab) s (nP Ab)) && decide (allP Ab < 2 * (wS (ownN Ab) s (nP Ab) + ownN Ab p))
def swF (Ab : Mem) (p : Nat) : Int := sumN (fun s => if swC Ab p s = true then 1 else 0) (2 ^ nP Ab)
def htB (Ab : Mem) (x : Nat) : Prop := winB Ab x = true ∧ ∀ q, q < 4 → x.testBit q = true → winB Ab (x ^^^ 2 ^ q) = false
def owA (n : Nat) : Int := if n = 0 ∨ n = 3 then 6 else 2
def otC (Ab : Mem) (q s : Nat) : Bool := !s.testBit q && !winB Ab s && winB Ab (s ||| 2 ^ q)
def otF (Ab : Mem) (q : Nat) : Int := sumN (fun s => if otC Ab q s = true then owA (popc s) else 0) 16
def ScP (M : Mem) (Ab : Mem) : Prop := HallOK Ab ∧ M 125 0 = allP Ab ∧ M 125 1 = Ab 10 1 ∧ (∀ p, p < nP Ab → M 126 p = ownN Ab p) ∧ ∀ s, s < 2 ^ nP Ab → M 127 s = wS (ownN Ab) s (nP Ab)
def ScQ (M : Mem) (Ab : Mem) : Prop := HallOK Ab ∧ M 125 0 = allP Ab ∧ ∀ q, q < 4 → M 128 q = ptO Ab q
theorem own_bd {Ab : Mem} (ho : HallOK Ab) (p : Int) : 0 ≤ ownP Ab p ∧ ownP Ab p ≤ 1386 := wt_bd ho (Nat.le_refl _)
theorem all_bd {Ab : Mem} (ho : HallOK Ab) : 0 ≤ allP Ab ∧ allP Ab ≤ 1386 := by
  have h := wt_bd ho (c := fun _ => True) (Nat.le_refl _)
  unfold allP
  rw [sumN_cong (f := fun t => Ab 1 t) (g := fun t => if True then Ab 1 t else 0) (fun i _ => (if_pos trivial).symm)]
  exact h
theorem wo_bd {Ab : Mem} (ho : HallOK Ab) (s : Nat) : 0 ≤ wS (ownN Ab) s (nP Ab) ∧ wS (ownN Ab) s (nP Ab) ≤ 13860 := by
  have h := wS_bd (w := ownN Ab) (c := 1386) (by decide) (n := nP Ab) (fun i _ => own_bd ho _) s
  have := (nP_le ho).1
  omega
theorem pt_bd {Ab : Mem} (ho : HallOK Ab) (q : Nat) {n : Nat} (hn : n ≤ nP Ab) : 0 ≤ sumN (fun p => if Ab 4 p = (q : Int) then ownN Ab p else 0) n ∧ sumN (fun p => if Ab 4 p = (q : Int) then ownN Ab p else 0) n ≤ 13860 := by
  have h := sumN_bd (f := fun p => if Ab 4 p = (q : Int) then ownN Ab p else 0) (c := 1386) (by decide) (n := n) (fun i _ => by
    have : 0 ≤ ownN Ab i ∧ ownN Ab i ≤ 1386 := own_bd ho _
    split <;> omega)
  have := (nP_le ho).1
  omega
theorem wp_bd {Ab : Mem} (ho : HallOK Ab) (s : Nat) {n : Nat} (hn : n ≤ 4) : 0 ≤ wS (ptO Ab) s n ∧ wS (ptO Ab) s n ≤ 55440 := by
  have h := wS_bd (w := ptO Ab) (c := 13860) (by decide) (n := n) (fun i _ => pt_bd ho i (Nat.le_refl _)) s
  omega
def G_X7_weighPersons : FN := fun as M Q => match as with
  | [.inr (.inl k), .inr (.inl pl)] => ∃ Ab, k = 125 ∧ PL M pl Ab ∧ ∀ M' : Mem, (∀ u v, (u < 125 ∨ 127 < u) → M' u v = M u v) → ScP M' Ab → Q none M'
  | _ => False
def G_X7_weighParties : FN := fun as M Q => match as with
  | [.inr (.inl k), .inr (.inl pl)] => ∃ Ab, k = 125 ∧ PL M pl Ab ∧ ∀ M' : Mem, (∀ u v, (u < 125 ∨ 128 < u) → M' u v = M u v) → ScQ M' Ab → Q none M'
  | _ => False
def G_X7_isMore : FN := fun as M Q => match as with
  | [.inr (.inl k), .inl x] => (k = 125 ∧ 0 ≤ x ∧ x < 1000000) ∧ bq (M 125 0 < 2 * x) Q M
  | _ => False
def G_X7_swingsOf : FN := fun as M Q => match as with
  | [.inr (.inl k), .inl p] => ∃ Ab, (k = 125 ∧ 0 ≤ p ∧ p < Ab 10 1) ∧ ScP M Ab ∧ Q (some (vI (swF Ab p.toNat))) M
  | _ => False
def G_X7_isWinning : FN := fun as M Q => match as with
  | [.inr (.inl k), .inl x] => ∃ Ab, (k = 125 ∧ 0 ≤ x ∧ x < 16) ∧ ScQ M Ab ∧ bq (winB Ab x.toNat = true) Q M
  | _ => False
def G_X7_isHoldingTogether : FN := fun as M Q => match as with
  | [.inr (.inl k), .inl x] => ∃ Ab, (k = 125 ∧ 0 ≤ x ∧ x < 16) ∧ ScQ M Ab ∧ bq (htB Ab x.toNat) Q M
  | _ => False
def G_X7_ordersWithAhead : FN := fun as M Q => match as with
  | [.inl n] => 0 ≤ n ∧ Q (some (vI (owA n.toNat))) M
  | _ => False
def G_X7_ordersTurnedBy : FN := fun as M Q => match as with
  | [.inr (.inl k), .inl q] => ∃ Ab, (k = 125 ∧ 0 ≤ q ∧ q < 4) ∧ ScQ M Ab ∧ Q (some (vI (otF Ab q.toNat))) M
  | _ => False
def b_X7_weighPersons_0 : List AT := [tx_al 0, tx_al 1, tx_callv 6 (nf G_X6_allPounds) 0, tx_pi 7 0, tx_al 0, tx_al 1, tx_gi 6 0, tx_pi 7 1, tx_ic 0, tx_is 2, tx_fall 18]
def b_X7_weighPersons_18 : List AT := [tx_il 2, tx_al 0, tx_gi 7 1, tx_cmp r_ge 43, tx_al 0, tx_gr 7 1, tx_il 2, tx_al 1, tx_il 2, tx_callv 6 (nf G_X6_ownPounds) 1, tx_iax, tx_inc 2 1, tx_fall 18]
def b_X7_weighPersons_43 : List AT := [tx_al 0, tx_gr 7 2, tx_ic 0, tx_ic 0, tx_iax, tx_ic 1, tx_is 2, tx_fall 52]
def b_X7_weighPersons_52 : List AT := [tx_il 2, tx_ic 1, tx_al 0, tx_gi 7 1, tx_bin shlI, tx_cmp r_ge 94, tx_al 0, tx_gr 7 2, tx_il 2, tx_al 0, tx_gr 7 2, tx_il 2, tx_il 2, tx_ic 1, tx_bin f_sub, tx_bin andI, tx_ia, tx_al 0, tx_gr 7 1, tx_il 2, tx_call (nf G_X10_lowestOf) 1, tx_ia, tx_bin f_add, tx_iax, tx_inc 2 1, tx_fall 52]
def b_X7_weighPersons_94 : List AT := [tx_rv]
def R_X7_weighPersons (J : JT) (Q : QT) : Prop := (∀ ls st M, wpl J Q b_X7_weighPersons_0 ls st M → J 0 ls st M) ∧ (∀ ls st M, wpl J Q b_X7_weighPersons_18 ls st M → J 18 ls st M) ∧ (∀ ls st M, wpl J Q b_X7_weighPersons_43 ls st M → J 43 ls st M) ∧ (∀ ls st M, wpl J Q b_X7_weighPersons_52 ls st M → J 52 ls st M) ∧ (∀ ls st M, wpl J Q b_X7_weighPersons_94 ls st M → J 94 ls st M)
theorem R_X7_weighPersons_0 {J : JT} {Q : QT} (R : R_X7_weighPersons J Q) {ls : Ls} {st : St} {M : Mem} (h : wpl J Q b_X7_weighPersons_0 ls st M) : J 0 ls st M := R.1 ls st M h
theorem R_X7_weighPersons_18 {J : JT} {Q : QT} (R : R_X7_weighPersons J Q) {ls : Ls} {st : St} {M : Mem} (h : wpl J Q b_X7_weighPersons_18 ls st M) : J 18 ls st M := R.2.1 ls st M h
theorem R_X7_weighPersons_43 {J : JT} {Q : QT} (R : R_X7_weighPersons J Q) {ls : Ls} {st : St} {M : Mem} (h : wpl J Q b_X7_weighPersons_43 ls st M) : J 43 ls st M := R.2.2.1 ls st M h
theorem R_X7_weighPersons_52 {J : JT} {Q : QT} (R : R_X7_weighPersons J Q) {ls : Ls} {st : St} {M : Mem} (h : wpl J Q b_X7_weighPersons_52 ls st M) : J 52 ls st M := R.2.2.2.1 ls st M h
theorem R_X7_weighPersons_94 {J : JT} {Q : QT} (R : R_X7_weighPersons J Q) {ls : Ls} {st : St} {M : Mem} (h : wpl J Q b_X7_weighPersons_94 ls st M) : J 94 ls st M := R.2.2.2.2 ls st M h
def b_X7_weighParties_0 : List AT := [tx_al 0, tx_al 1, tx_callv 6 (nf G_X6_allPounds) 0, tx_pi 7 0, tx_ic 0, tx_is 2, tx_fall 10]
def b_X7_weighParties_10 : List AT := [tx_il 2, tx_ic 4, tx_cmp r_ge 28, tx_al 0, tx_gr 7 3, tx_il 2, tx_ic 0, tx_iax, tx_inc 2 1, tx_fall 10]
def b_X7_weighParties_28 : List AT := [tx_ic 0, tx_is 2, tx_fall 30]
def b_X7_weighParties_30 : List AT := [tx_il 2, tx_al 1, tx_gi 6 0, tx_cmp r_ge 74, tx_al 1, tx_gr 6 1, tx_il 2, tx_ia, tx_is 3, tx_il 3, tx_ifz r_lt 68, tx_il 3, tx_ic 4, tx_cmp r_ge 68, tx_al 0, tx_gr 7 3, tx_il 3, tx_dup2, tx_ia, tx_al 1, tx_il 2, tx_callv 6 (nf G_X6_ownPounds) 1, tx_bin f_add, tx_iax, tx_fall 68]
def b_X7_weighParties_68 : List AT := [tx_inc 2 1, tx_fall 30]
def b_X7_weighParties_74 : List AT := [tx_rv]
def R_X7_weighParties (J : JT) (Q : QT) : Prop := (∀ ls st M, wpl J Q b_X7_weighParties_0 ls st M → J 0 ls st M) ∧ (∀ ls st M, wpl J Q b_X7_weighParties_10 ls st M → J 10 ls st M) ∧ (∀ ls st M, wpl J Q b_X7_weighParties_28 ls st M → J 28 ls st M) ∧ (∀ ls st M, wpl J Q b_X7_weighParties_30 ls st M → J 30 ls st M) ∧ (∀ ls st M, wpl J Q b_X7_weighParties_68 ls st M → J 68 ls st M) ∧ (∀ ls st M, wpl J Q b_X7_weighParties_74 ls st M → J 74 ls st M)
theorem R_X7_weighParties_0 {J : JT} {Q : QT} (R : R_X7_weighParties J Q) {ls : Ls} {st : St} {M : Mem} (h : wpl J Q b_X7_weighParties_0 ls st M) : J 0 ls st M := R.1 ls st M h
theorem R_X7_weighParties_10 {J : JT} {Q : QT} (R : R_X7_weighParties J Q) {ls : Ls} {st : St} {M : Mem} (h : wpl J Q b_X7_weighParties_10 ls st M) : J 10 ls st M := R.2.1 ls st M h
theorem R_X7_weighParties_28 {J : JT} {Q : QT} (R : R_X7_weighParties J Q) {ls : Ls} {st : St} {M : Mem} (h : wpl J Q b_X7_weighParties_28 ls st M) : J 28 ls st M := R.2.2.1 ls st M h
theorem R_X7_weighParties_30 {J : JT} {Q : QT} (R : R_X7_weighParties J Q) {ls : Ls} {st : St} {M : Mem} (h : wpl J Q b_X7_weighParties_30 ls st M) : J 30 ls st M := R.2.2.2.1 ls st M h
theorem R_X7_weighParties_68 {J : JT} {Q : QT} (R : R_X7_weighParties J Q) {ls : Ls} {st : St} {M : Mem} (h : wpl J Q b_X7_weighParties_68 ls st M) : J 68 ls st M := R.2.2.2.2.1 ls st M h
theorem R_X7_weighParties_74 {J : JT} {Q : QT} (R : R_X7_weighParties J Q) {ls : Ls} {st : St} {M : Mem} (h : wpl J Q b_X7_weighParties_74 ls st M) : J 74 ls st M := R.2.2.2.2.2 ls st M h
def b_X7_isMore_0 : List AT := [tx_ic 2, tx_il 1, tx_bin f_mul, tx_al 0, tx_gi 7 0, tx_cmp r_le 14, tx_ic 1, tx_fall 15]
def b_X7_isMore_14 : List AT := [tx_ic 0, tx_fall 15]
def b_X7_isMore_15 : List AT := [tx_rz]
def R_X7_isMore (J : JT) (Q : QT) : Prop := (∀ ls st M, wpl J Q b_X7_isMore_0 ls st M → J 0 ls st M) ∧ (∀ ls st M, wpl J Q b_X7_isMore_14 ls st M → J 14 ls st M) ∧ (∀ ls st M, wpl J Q b_X7_isMore_15 ls st M → J 15 ls st M)
theorem R_X7_isMore_0 {J : JT} {Q : QT} (R : R_X7_isMore J Q) {ls : Ls} {st : St} {M : Mem} (h : wpl J Q b_X7_isMore_0 ls st M) : J 0 ls st M := R.1 ls st M h
theorem R_X7_isMore_14 {J : JT} {Q : QT} (R : R_X7_isMore J Q) {ls : Ls} {st : St} {M : Mem} (h : wpl J Q b_X7_isMore_14 ls st M) : J 14 ls st M := R.2.1 ls st M h
theorem R_X7_isMore_15 {J : JT} {Q : QT} (R : R_X7_isMore J Q) {ls : Ls} {st : St} {M : Mem} (h : wpl J Q b_X7_isMore_15 ls st M) : J 15 ls st M := R.2.2 ls st M h
def b_X7_swingsOf_0 : List AT := [tx_il 1, tx_ifz r_lt 12, tx_il 1, tx_al 0, tx_gi 7 1, tx_cmp r_lt 14, tx_fall 12]
def b_X7_swingsOf_12 : List AT := [tx_ic 0, tx_ri]
def b_X7_swingsOf_14 : List AT := [tx_ic 0, tx_is 2, tx_ic 0, tx_is 3, tx_fall 18]
def b_X7_swingsOf_18 : List AT := [tx_il 3, tx_ic 1, tx_al 0, tx_gi 7 1, tx_bin shlI, tx_cmp r_ge 78, tx_il 1, tx_il 3, tx_call (nf G_X10_isIn) 2, tx_ifz r_ne 72, tx_al 0, tx_al 0, tx_gr 7 2, tx_il 3, tx_ia, tx_callv 7 (nf G_X7_isMore) 1, tx_ifz r_ne 72, tx_al 0, tx_al 0, tx_gr 7 2, tx_il 3, tx_ia, tx_al 0, tx_gr 7 1, tx_il 1, tx_ia, tx_bin f_add, tx_callv 7 (nf G_X7_isMore) 1, tx_ifz r_eq 72, tx_inc 2 1, tx_fall 72]
def b_X7_swingsOf_72 : List AT := [tx_inc 3 1, tx_fall 18]
def b_X7_swingsOf_78 : List AT := [tx_il 2, tx_ri]
def R_X7_swingsOf (J : JT) (Q : QT) : Prop := (∀ ls st M, wpl J Q b_X7_swingsOf_0 ls st M → J 0 ls st M) ∧ (∀ ls st M, wpl J Q b_X7_swingsOf_12 ls st M → J 12 ls st M) ∧ (∀ ls st M, wpl J Q b_X7_swingsOf_14 ls st M → J 14 ls st M) ∧ (∀ ls st M, wpl J Q b_X7_swingsOf_18 ls st M → J 18 ls st M) ∧ (∀ ls st M, wpl J Q b_X7_swingsOf_72 ls st M → J 72 ls st M) ∧ (∀ ls st M, wpl J Q b_X7_swingsOf_78 ls st M → J 78 ls st M)
theorem R_X7_swingsOf_0 {J : JT} {Q : QT} (R : R_X7_swingsOf J Q) {ls : Ls} {st : St} {M : Mem} (h : wpl J Q b_X7_swingsOf_0 ls st M) : J 0 ls st M := R.1 ls st M h
theorem R_X7_swingsOf_12 {J : JT} {Q : QT} (R : R_X7_swingsOf J Q) {ls : Ls} {st : St} {M : Mem} (h : wpl J Q b_X7_swingsOf_12 ls st M) : J 12 ls st M := R.2.1 ls st M h
theorem R_X7_swingsOf_14 {J : JT} {Q : QT} (R : R_X7_swingsOf J Q) {ls : Ls} {st : St} {M : Mem} (h : wpl J Q b_X7_swingsOf_14 ls st M) : J 14 ls st M := R.2.2.1 ls st M h
theorem R_X7_swingsOf_18 {J : JT} {Q : QT} (R : R_X7_swingsOf J Q) {ls : Ls} {st : St} {M : Mem} (h : wpl J Q b_X7_swingsOf_18 ls st M) : J 18 ls st M := R.2.2.2.1 ls st M h
theorem R_X7_swingsOf_72 {J : JT} {Q : QT} (R : R_X7_swingsOf J Q) {ls : Ls} {st : St} {M : Mem} (h : wpl J Q b_X7_swingsOf_72 ls st M) : J 72 ls st M := R.2.2.2.2.1 ls st M h
theorem R_X7_swingsOf_78 {J : JT} {Q : QT} (R : R_X7_swingsOf J Q) {ls : Ls} {st : St} {M : Mem} (h : wpl J Q b_X7_swingsOf_78 ls st M) : J 78 ls st M := R.2.2.2.2.2 ls st M h
def b_X7_isWinning_0 : List AT := [tx_ic 0, tx_is 2, tx_ic 0, tx_is 3, tx_fall 4]
def b_X7_isWinning_4 : List AT := [tx_il 3, tx_ic 4, tx_cmp r_ge 32, tx_il 3, tx_il 1, tx_call (nf G_X10_isIn) 2, tx_ifz r_eq 26, tx_il 2, tx_al 0, tx_gr 7 3, tx_il 3, tx_ia, tx_bin f_add, tx_is 2, tx_fall 26]
def b_X7_isWinning_26 : List AT := [tx_inc 3 1, tx_fall 4]
def b_X7_isWinning_32 : List AT := [tx_al 0, tx_il 2, tx_callv 7 (nf G_X7_isMore) 1, tx_rz]
def R_X7_isWinning (J : JT) (Q : QT) : Prop := (∀ ls st M, wpl J Q b_X7_isWinning_0 ls st M → J 0 ls st M) ∧ (∀ ls st M, wpl J Q b_X7_isWinning_4 ls st M → J 4 ls st M) ∧ (∀ ls st M, wpl J Q b_X7_isWinning_26 ls st M → J 26 ls st M) ∧ (∀ ls st M, wpl J Q b_X7_isWinning_32 ls st M → J 32 ls st M)
theorem R_X7_isWinning_0 {J : JT} {Q : QT} (R : R_X7_isWinning J Q) {ls : Ls} {st : St} {M : Mem} (h : wpl J Q b_X7_isWinning_0 ls st M) : J 0 ls st M := R.1 ls st M h
theorem R_X7_isWinning_4 {J : JT} {Q : QT} (R : R_X7_isWinning J Q) {ls : Ls} {st : St} {M : Mem} (h : wpl J Q b_X7_isWinning_4 ls st M) : J 4 ls st M := R.2.1 ls st M h
theorem R_X7_isWinning_26 {J : JT} {Q : QT} (R : R_X7_isWinning J Q) {ls : Ls} {st : St} {M : Mem} (h : wpl J Q b_X7_isWinning_26 ls st M) : J 26 ls st M := R.2.2.1 ls st M h
theorem R_X7_isWinning_32 {J : JT} {Q : QT} (R : R_X7_isWinning J Q) {ls : Ls} {st : St} {M : Mem} (h : wpl J Q b_X7_isWinning_32 ls st M) : J 32 ls st M := R.2.2.2 ls st M h
def b_X7_isHoldingTogether_0 : List AT := [tx_al 0, tx_il 1, tx_callv 7 (nf G_X7_isWinning) 1, tx_ifz r_ne 10, tx_ic 0, tx_rz]
def b_X7_isHoldingTogether_10 : List AT := [tx_ic 0, tx_is 2, tx_fall 12]
def b_X7_isHoldingTogether_12 : List AT := [tx_il 2, tx_ic 4, tx_cmp r_ge 45, tx_il 2, tx_il 1, tx_call (nf G_X10_isIn) 2, tx_ifz r_eq 39, tx_al 0, tx_il 1, tx_ic 1, tx_il 2, tx_bin shlI, tx_bin xorI, tx_callv 7 (nf G_X7_isWinning) 1, tx_ifz r_eq 39, tx_ic 0, tx_rz]
def b_X7_isHoldingTogether_39 : List AT := [tx_inc 2 1, tx_fall 12]
def b_X7_isHoldingTogether_45 : List AT := [tx_ic 1, tx_rz]
def R_X7_isHoldingTogether (J : JT) (Q : QT) : Prop := (∀ ls st M, wpl J Q b_X7_isHoldingTogether_0 ls st M → J 0 ls st M) ∧ (∀ ls st M, wpl J Q b_X7_isHoldingTogether_10 ls st M → J 10 ls st M) ∧ (∀ ls st M, wpl J Q b_X7_isHoldingTogether_12 ls st M → J 12 ls st M) ∧ (∀ ls st M, wpl J Q b_X7_isHoldingTogether_39 ls st M → J 39 ls st M) ∧ (∀ ls st M, wpl J Q b_X7_isHoldingTogether_45 ls st M → J 45 ls st M)
theorem R_X7_isHoldingTogether_0 {J : JT} {Q : QT} (R : R_X7_isHoldingTogether J Q) {ls : Ls} {st : St} {M : Mem} (h : wpl J Q b_X7_isHoldingTogether_0 ls st M) : J 0 ls st M := R.1 ls st M h
theorem R_X7_isHoldingTogether_10 {J : JT} {Q : QT} (R : R_X7_isHoldingTogether J Q) {ls : Ls} {st : St} {M : Mem} (h : wpl J Q b_X7_isHoldingTogether_10 ls st M) : J 10 ls st M := R.2.1 ls st M h
theorem R_X7_isHoldingTogether_12 {J : JT} {Q : QT} (R : R_X7_isHoldingTogether J Q) {ls : Ls} {st : St} {M : Mem} (h : wpl J Q b_X7_isHoldingTogether_12 ls st M) : J 12 ls st M := R.2.2.1 ls st M h
theorem R_X7_isHoldingTogether_39 {J : JT} {Q : QT} (R : R_X7_isHoldingTogether J Q) {ls : Ls} {st : St} {M : Mem} (h : wpl J Q b_X7_isHoldingTogether_39 ls st M) : J 39 ls st M := R.2.2.2.1 ls st M h
theorem R_X7_isHoldingTogether_45 {J : JT} {Q : QT} (R : R_X7_isHoldingTogether J Q) {ls : Ls} {st : St} {M : Mem} (h : wpl J Q b_X7_isHoldingTogether_45 ls st M) : J 45 ls st M := R.2.2.2.2 ls st M h
def b_X7_ordersWithAhead_0 : List AT := [tx_il 0, tx_ifz r_eq 9, tx_il 0, tx_ic 3, tx_cmp r_ne 14, tx_fall 9]
def b_X7_ordersWithAhead_9 : List AT := [tx_ic 6, tx_fall 15]
def b_X7_ordersWithAhead_14 : List AT := [tx_ic 2, tx_fall 15]
def b_X7_ordersWithAhead_15 : List AT := [tx_ri]
def R_X7_ordersWithAhead (J : JT) (Q : QT) : Prop := (∀ ls st M, wpl J Q b_X7_ordersWithAhead_0 ls st M → J 0 ls st M) ∧ (∀ ls st M, wpl J Q b_X7_ordersWithAhead_9 ls st M → J 9 ls st M) ∧ (∀ ls st M, wpl J Q b_X7_ordersWithAhead_14 ls st M → J 14 ls st M) ∧ (∀ ls st M, wpl J Q b_X7_ordersWithAhead_15 ls st M → J 15 ls st M)
theorem R_X7_ordersWithAhead_0 {J : JT} {Q : QT} (R : R_X7_ordersWithAhead J Q) {ls : Ls} {st : St} {M : Mem} (h : wpl J Q b_X7_ordersWithAhead_0 ls st M) : J 0 ls st M := R.1 ls st M h
theorem R_X7_ordersWithAhead_9 {J : JT} {Q : QT} (R : R_X7_ordersWithAhead J Q) {ls : Ls} {st : St} {M : Mem} (h : wpl J Q b_X7_ordersWithAhead_9 ls st M) : J 9 ls st M := R.2.1 ls st M h
theorem R_X7_ordersWithAhead_14 {J : JT} {Q : QT} (R : R_X7_ordersWithAhead J Q) {ls : Ls} {st : St} {M : Mem} (h : wpl J Q b_X7_ordersWithAhead_14 ls st M) : J 14 ls st M := R.2.2.1 ls st M h
theorem R_X7_ordersWithAhead_15 {J : JT} {Q : QT} (R : R_X7_ordersWithAhead J Q) {ls : Ls} {st : St} {M : Mem} (h : wpl J Q b_X7_ordersWithAhead_15 ls st M) : J 15 ls st M := R.2.2.2 ls st M h
def b_X7_ordersTurnedBy_0 : List AT := [tx_ic 0, tx_is 2, tx_ic 0, tx_is 3, tx_fall 4]
def b_X7_ordersTurnedBy_4 : List AT := [tx_il 3, tx_ic 16, tx_cmp r_ge 54, tx_il 1, tx_il 3, tx_call (nf G_X10_isIn) 2, tx_ifz r_ne 48, tx_al 0, tx_il 3, tx_callv 7 (nf G_X7_isWinning) 1, tx_ifz r_ne 48, tx_al 0, tx_il 3, tx_ic 1, tx_il 1, tx_bin shlI, tx_bin orI, tx_callv 7 (nf G_X7_isWinning) 1, tx_ifz r_eq 48, tx_il 2, tx_il 3, tx_call (nf G_J6_bitCount_0f7a4) 1, tx_call (nf G_X7_ordersWithAhead) 1, tx_bin f_add, tx_is 2, tx_fall 48]
def b_X7_ordersTurnedBy_48 : List AT := [tx_inc 3 1, tx_fall 4]
def b_X7_ordersTurnedBy_54 : List AT := [tx_il 2, tx_ri]
def R_X7_ordersTurnedBy (J : JT) (Q : QT) : Prop := (∀ ls st M, wpl J Q b_X7_ordersTurnedBy_0 ls st M → J 0 ls st M) ∧ (∀ ls st M, wpl J Q b_X7_ordersTurnedBy_4 ls st M → J 4 ls st M) ∧ (∀ ls st M, wpl J Q b_X7_ordersTurnedBy_48 ls st M → J 48 ls st M) ∧ (∀ ls st M, wpl J Q b_X7_ordersTurnedBy_54 ls st M → J 54 ls st M)
theorem R_X7_ordersTurnedBy_0 {J : JT} {Q : QT} (R : R_X7_ordersTurnedBy J Q) {ls : Ls} {st : St} {M : Mem} (h : wpl J Q b_X7_ordersTurnedBy_0 ls st M) : J 0 ls st M := R.1 ls st M h
theorem R_X7_ordersTurnedBy_4 {J : JT} {Q : QT} (R : R_X7_ordersTurnedBy J Q) {ls : Ls} {st : St} {M : Mem} (h : wpl J Q b_X7_ordersTurnedBy_4 ls st M) : J 4 ls st M := R.2.1 ls st M h
theorem R_X7_ordersTurnedBy_48 {J : JT} {Q : QT} (R : R_X7_ordersTurnedBy J Q) {ls : Ls} {st : St} {M : Mem} (h : wpl J Q b_X7_ordersTurnedBy_48 ls st M) : J 48 ls st M := R.2.2.1 ls st M h
theorem R_X7_ordersTurnedBy_54 {J : JT} {Q : QT} (R : R_X7_ordersTurnedBy J Q) {ls : Ls} {st : St} {M : Mem} (h : wpl J Q b_X7_ordersTurnedBy_54 ls st M) : J 54 ls st M := R.2.2.2 ls st M h
theorem o125 : OB 125 7 := ⟨rfl, rfl⟩
theorem sh126 : SH 126 = (1, 10, 0, 0) := rfl
theorem sh127 : SH 127 = (1, 1024, 0, 0) := rfl
theorem sh128 : SH 128 = (1, 4, 0, 0) := rfl
theorem pl_lt {k : Nat} (h : PlanAt k) : k + 10 < 125 := by rcases h with rfl | rfl | rfl | rfl | rfl <;> omega
theorem p10 {n : Nat} (h : n ≤ 10) : 2 ^ n ≤ 1024 := Nat.pow_le_pow_right (by decide) h
theorem p14 {n : Nat} (h : n ≤ 14) : 2 ^ n ≤ 16384 := Nat.pow_le_pow_right (by decide) h
theorem and_p {s : Nat} (h0 : 0 < s) (h1 : s < 100000) : andI (s : Int) (f_sub (s : Int) 1) = ((s &&& (s - 1) : Nat) : Int) := by
  have e : f_sub (s : Int) 1 = ((s - 1 : Nat) : Int) := w1 (by omega) (by omega) (by omega)
  rw [e]
  exact andI_n (by omega)
theorem P_X7_weighPersons {J : JT} {Q : QT} (R : R_X7_weighPersons J Q) {as : List Vl} {M : Mem} (h : nf G_X7_weighPersons as M Q) : (enL as).length ≤ 3 ∧ J 0 (padL 3 (enL as)) [] M := by
  unfold nf G_X7_weighPersons at h
  split at h
  · rename_i k pl
    obtain ⟨Ab, rfl, ⟨hk, hp, ho⟩, hQ⟩ := h
    obtain ⟨n1, n2⟩ := nP_le ho
    have hl := pl_lt hk
    have hpk : ∀ M' : Mem, (∀ u v, (u < 125 ∨ 127 < u) → M' u v = M u v) → PlanRel M' pl Ab := fun M' h1 => hp.kept (fun u v q1 q2 => h1 u v (by omega))
    have key2 : ∀ i : Nat, i ≤ 2 ^ nP Ab → 1 ≤ i → ∀ (x : Int) (M' : Mem), x = (i : Int) → (∀ u v, (u < 125 ∨ 127 < u) → M' u v = M u v) → M' 125 0 = allP Ab → M' 125 1 = Ab 10 1 → (∀ p, p < nP Ab → M' 126 p = ownN Ab p) → (∀ s, s < i → M' 127 s = wS (ownN Ab) s (nP Ab)) → J 52 [some (vR 125), some (vR pl), some (vI x)] [] M' := by
      refine dn ?_ ?_
      · intro _ x M' hx h1 h2 h3 h4 h5
        refine R_X7_weighPersons_52 R (an o125 (bt (show shlI 1 (M' 125 1) ≤ x by rw [h3, ← n2, shl1 _ (by omega)]; omega) (R_X7_weighPersons_94 R (hQ M' h1 ⟨ho, h2, h3, h4, h5⟩))))
      · intro i hi ih i1 x M' hx h1 h2 h3 h4 h5
        have q10 := p10 n1
        subst hx
        have ea := and_p (s := i) (by omega) (by omega)
        obtain ⟨l1, l2, l3⟩ := low_sp (s := i) (by omega) (by omega)
        have l4 := bit_lt hi l1
        have al := and_pred_lt (s := i) (by omega)
        refine R_X7_weighPersons_52 R (an o125 (bf (show ¬ shlI 1 (M' 125 1) ≤ (i : Int) by rw [h3, ← n2, shl1 _ (by omega)]; omega) (an o125 (an o125 (an (show AK 1 127 (andI (i : Int) (f_sub (i : Int) 1)) by rw [ea]; exact ak_of sh127 (by omega) (by omega)) (an o125 (an ⟨by omega, by omega⟩ (an (show AK 1 126 ((lowB i : Nat) : Int) from ak_of sh126 (by omega) (by omega)) (an (ak_of sh127 (by omega) (by omega)) ?_)))))))))
        refine ih (by omega) _ _ (wn rfl (by omega)) (fun u v hu => ?_) ?_ ?_ (fun p hp => ?_) (fun s hs => ?_)
        · rw [up_ne (by omega)]; exact h1 u v hu
        · rw [up_ne (by omega)]; exact h2
        · rw [up_ne (by omega)]; exact h3
        · rw [up_ne (by omega)]; exact h4 p hp
        · by_cases q : s = i
          · subst q
            rw [Int.toNat_natCast, up_eq]
            show w32 (M' 127 (andI (s : Int) (f_sub (s : Int) 1)).toNat + M' 126 (lowB s)) = _
            rw [ea, Int.toNat_natCast, h5 _ al, h4 _ l4, ← wS_low (by omega) hi (by omega)]
            have := wo_bd ho s
            exact w1 (by omega) (by omega) rfl
          · rw [Int.toNat_natCast, up_ne (by omega)]
            exact h5 s (by omega)
    have key1 : ∀ i, i ≤ nP Ab → ∀ (x : Int) (M' : Mem), x = (i : Int) → (∀ u v, (u < 125 ∨ 127 < u) → M' u v = M u v) → M' 125 0 = allP Ab → M' 125 1 = Ab 10 1 → (∀ p, p < i → M' 126 p = ownN Ab p) → J 18 [some (vR 125), some (vR pl), some (vI x)] [] M' := by
      refine dn ?_ ?_
      · intro x M' hx h1 h2 h3 h4
        refine R_X7_weighPersons_18 R (an o125 (bt (show M' 125 1 ≤ x by rw [h3]; omega) (R_X7_weighPersons_43 R (an o125 (an (ak_of sh127 (by decide) (by decide)) ?_)))))
        refine key2 1 Nat.one_le_two_pow (by omega) _ _ rfl (fun u v hu => ?_) ?_ ?_ (fun p hp => ?_) (fun s hs => ?_)
        · rw [up_ne (by omega)]; exact h1 u v hu
        · rw [up_ne (by omega)]; exact h2
        · rw [up_ne (by omega)]; exact h3
        · rw [up_ne (by omega)]; exact h4 p hp
        · obtain rfl : s = 0 := by omega
          rw [wS_0]
          exact up_eq
      · intro i hi ih x M' hx h1 h2 h3 h4
        subst hx
        refine R_X7_weighPersons_18 R (an o125 (bf (show ¬ M' 125 1 ≤ (i : Int) by rw [h3]; omega) (an o125 (an (pl_ob hk) ⟨Ab, ⟨hk, hpk M' h1, ho⟩, an (ak_of sh126 (by omega) (by omega)) ?_⟩))))
        refine ih _ _ (wn rfl (by omega)) (fun u v hu => ?_) ?_ ?_ (fun p hp => ?_)
        · rw [up_ne (by omega)]; exact h1 u v hu
        · rw [up_ne (by omega)]; exact h2
        · rw [up_ne (by omega)]; exact h3
        · by_cases q : p = i
          · subst q
            rw [Int.toNat_natCast, up_eq]
            rfl
          · rw [Int.toNat_natCast, up_ne (by omega)]
            exact h4 p (by omega)
    refine ⟨Nat.le_of_ble_eq_true rfl, R_X7_weighPersons_0 R (an (pl_ob hk) ⟨Ab, ⟨hk, hp, ho⟩, an o125 (an (pl_ob hk) (an o125 ?_))⟩)⟩
    refine key1 0 (Nat.zero_le _) _ _ rfl (fun u v hu => ?_) ?_ ?_ (fun p hp => by omega)
    · rw [up_ne (by omega), up_ne (by omega)]
    · rw [up_ne (by omega), up_eq]
    · rw [up_eq, up_ne (by omega)]; exact hp.1
  · exact h.elim
theorem P_X7_isMore {J : JT} {Q : QT} (R : R_X7_isMore J Q) {as : List Vl} {M : Mem} (h : nf G_X7_isMore as M Q) : (enL as).length ≤ 2 ∧ J 0 (padL 2 (enL as)) [] M := by
  unfold nf G_X7_isMore at h
  split at h
  · rename_i k x
    obtain ⟨⟨rfl, x0, x1⟩, hQ⟩ := h
    have e : f_mul 2 x = 2 * x := w1 (by omega) (by omega) rfl
    refine ⟨Nat.le_of_ble_eq_true rfl, R_X7_isMore_0 R (an o125 (br (fun q => ?_) (fun q => ?_)))⟩
    · have q : f_mul 2 x ≤ M 125 0 := q
      rw [e] at q
      exact R_X7_isMore_14 R (R_X7_isMore_15 R (an (Or.inl rfl) (hQ.2 (by omega))))
    · have q : ¬ f_mul 2 x ≤ M 125 0 := q
      rw [e] at q
      exact R_X7_isMore_15 R (an (Or.inr rfl) (hQ.1 (by omega)))
  · exact h.elim
theorem P_X7_swingsOf {J : JT} {Q : QT} (R : R_X7_swingsOf J Q) {as : List Vl} {M : Mem} (h : nf G_X7_swingsOf as M Q) : (enL as).length ≤ 4 ∧ J 0 (padL 4 (enL as)) [] M := by
  unfold nf G_X7_swingsOf at h
  split at h
  · rename_i k p
    obtain ⟨Ab, ⟨rfl, p0, p1⟩, hs, hQ⟩ := h
    obtain ⟨ho, h2, h3, h4, h5⟩ := hs
    obtain ⟨n1, n2⟩ := nP_le ho
    have q10 := p10 n1
    obtain ⟨j, rfl⟩ : ∃ j : Nat, p = (j : Int) := ⟨p.toNat, by omega⟩
    have oj : 0 ≤ ownN Ab j ∧ ownN Ab j ≤ 1386 := own_bd ho _
    have key : ∀ i : Nat, i ≤ 2 ^ nP Ab → ∀ x acc : Int, x = (i : Int) → acc = sumN (fun s => if swC Ab j s = true then 1 else 0) i → J 18 [some (vR 125), some (vI (j : Int)), some (vI acc), some (vI x)] [] M := by
      refine dn ?_ ?_
      · intro x acc hx ha
        rw [ha]
        exact R_X7_swingsOf_18 R (an o125 (bt (show shlI 1 (M 125 1) ≤ x by rw [h3, ← n2, shl1 _ (by omega)]; omega) (R_X7_swingsOf_78 R hQ)))
      · intro i hi ih x acc hx ha
        subst hx
        have ab : 0 ≤ acc ∧ acc ≤ (i : Int) * 1 := by rw [ha]; exact sumN_bd (by decide) (fun i _ => by split <;> omega)
        have wi := wo_bd ho i
        have e1 : f_add (M 127 i) (M 126 j) = wS (ownN Ab) i (nP Ab) + ownN Ab j := by
          rw [h5 i hi, h4 j (by omega)]
          exact w1 (by omega) (by omega) rfl
        have skip : swC Ab j i = false → J 72 [some (vR 125), some (vI (j : Int)), some (vI acc), some (vI (i : Int))] [] M := fun q => R_X7_swingsOf_72 R (ih _ _ (wn rfl (by omega)) (by rw [sumN, q, ha]; simp))
        refine R_X7_swingsOf_18 R (an o125 (bf (show ¬ shlI 1 (M 125 1) ≤ (i : Int) by rw [h3, ← n2, shl1 _ (by omega)]; omega) (an ⟨by omega, by omega, by omega, by omega⟩ (br (fun q => bt (by decide) (skip ?_)) (fun q => bf (by decide) (an o125 (an (ak_of sh127 (by omega) (by omega)) (an o125 (an ⟨rfl, ?_, ?_⟩ (br (fun q2 => bt (by decide) (skip ?_)) (fun q2 => bf (by decide) (an o125 (an (ak_of sh127 (by omega) (by omega)) (an o125 (an (ak_of sh126 (by omega) (by omega)) (an o125 (an ⟨rfl, ?_, ?_⟩ (br (fun q3 => bf (by decide) ?_) (fun q3 => bt rfl (skip ?_))))))))))))))))))))
        · have q : i.testBit j = true := q
          simp [swC, q]
        · show 0 ≤ M 127 i
          rw [h5 i hi]; omega
        · show M 127 i < 1000000
          rw [h5 i hi]; omega
        · have q2 : M 125 0 < 2 * M 127 i := q2
          rw [h5 i hi, h2] at q2
          simp [swC, q2]
        · show 0 ≤ f_add (M 127 i) (M 126 j)
          rw [e1]; omega
        · show f_add (M 127 i) (M 126 j) < 1000000
          rw [e1]; omega
        · have q : ¬ i.testBit j = true := q
          have q2 : ¬ M 125 0 < 2 * M 127 i := q2
          have q3 : M 125 0 < 2 * f_add (M 127 i) (M 126 j) := q3
          rw [h5 i hi, h2] at q2
          rw [e1, h2] at q3
          refine R_X7_swingsOf_72 R (ih _ _ (wn rfl (by omega)) ?_)
          have e3 : swC Ab j i = true := by simp [swC, q, q3]; omega
          rw [sumN, e3, ← ha]
          exact w1 (by omega) (by omega) rfl
        · have q3 : ¬ M 125 0 < 2 * f_add (M 127 i) (M 126 j) := q3
          rw [e1, h2] at q3
          simp only [swC, q3]
          simp
    exact ⟨Nat.le_of_ble_eq_true rfl, R_X7_swingsOf_0 R (bf (show ¬ (j : Int) < 0 by omega) (an o125 (bt (show (j : Int) < M 125 1 by rw [h3]; exact p1) (R_X7_swingsOf_14 R (key 0 (Nat.zero_le _) _ _ rfl rfl)))))⟩
  · exact h.elim
theorem P_X7_weighParties {J : JT} {Q : QT} (R : R_X7_weighParties J Q) {as : List Vl} {M : Mem} (h : nf G_X7_weighParties as M Q) : (enL as).length ≤ 4 ∧ J 0 (padL 4 (enL as)) [] M := by
  unfold nf G_X7_weighParties at h
  split at h
  · rename_i k pl
    obtain ⟨Ab, rfl, ⟨hk, hp, ho⟩, hQ⟩ := h
    obtain ⟨n1, n2⟩ := nP_le ho
    have hl := pl_lt hk
    have hpk : ∀ M' : Mem, (∀ u v, (u < 125 ∨ 128 < u) → M' u v = M u v) → PlanRel M' pl Ab := fun M' h1 => hp.kept (fun u v q1 q2 => h1 u v (by omega))
    have key2 : ∀ i, i ≤ nP Ab → ∀ (x : Int) (M' : Mem) (z : Option Vl), x = (i : Int) → (∀ u v, (u < 125 ∨ 128 < u) → M' u v = M u v) → M' 125 0 = allP Ab → (∀ q : Nat, q < 4 → M' 128 q = sumN (fun p => if Ab 4 p = (q : Int) then ownN Ab p else 0) i) → J 30 [some (vR 125), some (vR pl), some (vI x), z] [] M' := by
      refine dn ?_ ?_
      · intro x M' z hx h1 h2 h3
        exact R_X7_weighParties_30 R (an (pl_ob hk) (bt (show M' pl 0 ≤ x by rw [(hpk M' h1).1]; omega) (R_X7_weighParties_74 R (hQ M' h1 ⟨ho, h2, h3⟩))))
      · intro i hi ih x M' z hx h1 h2 h3
        subst hx
        have e4 : M' (pl + 1) i = Ab 4 i := ((hpk M' h1).2.2.2.2.2.1 i hi).1
        have b4 := (ho.2.2.2.2.2.1 i hi).1
        obtain ⟨q, hq⟩ : ∃ q : Nat, Ab 4 i = (q : Int) := ⟨(Ab 4 i).toNat, by omega⟩
        have bd := pt_bd ho q (n := i + 1) (by omega)
        have bd0 := pt_bd ho q (n := i) (by omega)
        rw [sumN, if_pos hq] at bd
        refine R_X7_weighParties_30 R (an (pl_ob hk) (bf (show ¬ M' pl 0 ≤ (i : Int) by rw [(hpk M' h1).1]; omega) (an (pl_ob hk) (an (ak_of (pl_1 hk) (by omega) (by omega)) ?_))))
        rw [Int.toNat_natCast, e4, hq]
        refine bf (show ¬ (q : Int) < 0 by omega) (bf (show ¬ (4 : Int) ≤ (q : Int) by omega) (an o125 (an (ak_of sh128 (by omega) (by omega)) (an (pl_ob hk) ⟨Ab, ⟨hk, hpk M' h1, ho⟩, an (ak_of sh128 (by omega) (by omega)) (R_X7_weighParties_68 R (ih _ _ _ (wn rfl (by omega)) (fun u v hu => ?_) ?_ (fun r hr => ?_)))⟩))))
        · rw [up_ne (by omega)]; exact h1 u v hu
        · rw [up_ne (by omega)]; exact h2
        · rw [sumN, hq]
          by_cases e : r = q
          · subst e
            rw [if_pos rfl, Int.toNat_natCast, up_eq]
            show w32 (M' 128 r + ownP Ab (i : Int)) = _
            rw [h3 r hr]
            exact w1 (by unfold ownN at bd bd0 ⊢; omega) (by unfold ownN at bd bd0 ⊢; omega) rfl
          · rw [if_neg (by omega), Int.toNat_natCast, up_ne (by omega), h3 r hr]
            omega
    have key1 : ∀ i : Nat, i ≤ 4 → ∀ (x : Int) (M' : Mem) (z : Option Vl), x = (i : Int) → (∀ u v, (u < 125 ∨ 128 < u) → M' u v = M u v) → M' 125 0 = allP Ab → (∀ q : Nat, q < i → M' 128 q = 0) → J 10 [some (vR 125), some (vR pl), some (vI x), z] [] M' := by
      refine dn ?_ ?_
      · intro x M' z hx h1 h2 h3
        exact R_X7_weighParties_10 R (bt (show (4 : Int) ≤ x by omega) (R_X7_weighParties_28 R (key2 0 (Nat.zero_le _) _ _ _ rfl h1 h2 (fun q hq => h3 q hq))))
      · intro i hi ih x M' z hx h1 h2 h3
        subst hx
        refine R_X7_weighParties_10 R (bf (show ¬ (4 : Int) ≤ (i : Int) by omega) (an o125 (an (ak_of sh128 (by omega) (by omega)) (ih _ _ _ (wn rfl (by omega)) (fun u v hu => ?_) ?_ (fun q hq => ?_)))))
        · rw [up_ne (by omega)]; exact h1 u v hu
        · rw [up_ne (by omega)]; exact h2
        · by_cases e : q = i
          · subst e
            rw [Int.toNat_natCast, up_eq]
          · rw [Int.toNat_natCast, up_ne (by omega)]
            exact h3 q (by omega)
    refine ⟨Nat.le_of_ble_eq_true rfl, R_X7_weighParties_0 R (an (pl_ob hk) ⟨Ab, ⟨hk, hp, ho⟩, an o125 ?_⟩)⟩
    refine key1 0 (Nat.zero_le _) _ _ _ rfl (fun u v hu => ?_) ?_ (fun p hp => by omega)
    · rw [up_ne (by omega)]
    · rw [up_eq]
  · exact h.elim
theorem P_X7_isWinning {J : JT} {Q : QT} (R : R_X7_isWinning J Q) {as : List Vl} {M : Mem} (h : nf G_X7_isWinning as M Q) : (enL as).length ≤ 4 ∧ J 0 (padL 4 (enL as)) [] M := by
  unfold nf G_X7_isWinning at h
  split at h
  · rename_i k x
    obtain ⟨Ab, ⟨rfl, x0, x1⟩, ⟨ho, h2, h3⟩, hQ⟩ := h
    obtain ⟨s, rfl⟩ : ∃ j : Nat, x = (j : Int) := ⟨x.toNat, by omega⟩
    have key : ∀ i : Nat, i ≤ 4 → ∀ x acc : Int, x = (i : Int) → acc = wS (ptO Ab) s i → J 4 [some (vR 125), some (vI (s : Int)), some (vI acc), some (vI x)] [] M := by
      refine dn ?_ ?_
      · intro x acc hx ha
        have := wp_bd ho s (n := 4) (by decide)
        refine R_X7_isWinning_4 R (bt (show (4 : Int) ≤ x by omega) (R_X7_isWinning_32 R (an o125 (an ⟨rfl, by omega, by omega⟩ (br (fun q => ?_) (fun q => ?_))))))
        · have q : M 125 0 < 2 * acc := q
          rw [h2, ha] at q
          exact an (Or.inr rfl) (hQ.1 (by simpa [winB] using q))
        · have q : ¬ M 125 0 < 2 * acc := q
          rw [h2, ha] at q
          exact an (Or.inl rfl) (hQ.2 (by simpa [winB] using q))
      · intro i hi ih x acc hx ha
        subst hx
        have bd := wp_bd ho s (n := i + 1) (by omega)
        have pb := pt_bd ho i (Nat.le_refl _)
        refine R_X7_isWinning_4 R (bf (show ¬ (4 : Int) ≤ (i : Int) by omega) (an ⟨by omega, by omega, by omega, by omega⟩ (br (fun q => bf (by decide) (an o125 (an (ak_of sh128 (by omega) (by omega)) (R_X7_isWinning_26 R (ih _ _ (wn rfl (by omega)) ?_))))) (fun q => bt rfl (R_X7_isWinning_26 R (ih _ _ (wn rfl (by omega)) ?_))))))
        · have q : s.testBit i = true := q
          unfold wS at bd ⊢
          rw [sumN, if_pos q] at bd ⊢
          show w32 (acc + M 128 i) = _
          rw [h3 i hi, ha]
          exact w1 (by omega) (by omega) rfl
        · have q : ¬ s.testBit i = true := q
          unfold wS
          rw [sumN, if_neg q, ha]
          unfold wS
          omega
    exact ⟨Nat.le_of_ble_eq_true rfl, R_X7_isWinning_0 R (key 0 (Nat.zero_le _) _ _ rfl rfl)⟩
  · exact h.elim
theorem P_X7_isHoldingTogether {J : JT} {Q : QT} (R : R_X7_isHoldingTogether J Q) {as : List Vl} {M : Mem} (h : nf G_X7_isHoldingTogether as M Q) : (enL as).length ≤ 3 ∧ J 0 (padL 3 (enL as)) [] M := by
  unfold nf G_X7_isHoldingTogether at h
  split at h
  · rename_i k x
    obtain ⟨Ab, ⟨rfl, x0, x1⟩, hs, hQ⟩ := h
    obtain ⟨s, rfl⟩ : ∃ j : Nat, x = (j : Int) := ⟨x.toNat, by omega⟩
    have key : ∀ i : Nat, i ≤ 4 → ∀ x : Int, x = (i : Int) → winB Ab s = true → (∀ q, q < i → s.testBit q = true → winB Ab (s ^^^ 2 ^ q) = false) → J 12 [some (vR 125), some (vI (s : Int)), some (vI x)] [] M := by
      refine dn ?_ ?_
      · intro x hx h1 h2
        exact R_X7_isHoldingTogether_12 R (bt (show (4 : Int) ≤ x by omega) (R_X7_isHoldingTogether_45 R (an (Or.inr rfl) (hQ.1 ⟨h1, h2⟩))))
      · intro i hi ih x hx h1 h2
        subst hx
        have e : xorI (s : Int) (shlI 1 (i : Int)) = ((s ^^^ 2 ^ i : Nat) : Int) := by
          rw [shl1 i (by omega)]
          exact xorI_n (by omega) (Nat.lt_trans (pw_lt (n := 4) hi) (by decide))
        have lt : s ^^^ 2 ^ i < 2 ^ 4 := xor_lt (by omega) (pw_lt hi)
        refine R_X7_isHoldingTogether_12 R (bf (show ¬ (4 : Int) ≤ (i : Int) by omega) (an ⟨by omega, by omega, by omega, by omega⟩ (br (fun q => bf (by decide) ?_) (fun q => bt rfl (R_X7_isHoldingTogether_39 R (ih _ (wn rfl (by omega)) h1 (fun r hr hb => ?_)))))))
        · have q : s.testBit i = true := q
          refine an o125 ⟨Ab, ⟨rfl, show 0 ≤ xorI (s : Int) (shlI 1 (i : Int)) by rw [e]; omega, show xorI (s : Int) (shlI 1 (i : Int)) < 16 by rw [e]; omega⟩, hs, br (fun w => bf (by decide) (an (Or.inl rfl) (hQ.2 (fun z => ?_)))) (fun w => bt rfl (R_X7_isHoldingTogether_39 R (ih _ (wn rfl (by omega)) h1 (fun r hr hb => ?_))))⟩
          · have w : winB Ab (xorI (s : Int) (shlI 1 (i : Int))).toNat = true := w
            have z2 : winB Ab (s ^^^ 2 ^ i) = false := z.2 i hi q
            rw [e, Int.toNat_natCast, z2] at w
            exact absurd w (by decide)
          · by_cases e2 : r = i
            · subst e2
              have w : ¬ winB Ab (xorI (s : Int) (shlI 1 (r : Int))).toNat = true := w
              rw [e, Int.toNat_natCast] at w
              exact Bool.eq_false_iff.mpr w
            · exact h2 r (by omega) hb
        · by_cases e2 : r = i
          · subst e2
            exact absurd hb q
          · exact h2 r (by omega) hb
    refine ⟨Nat.le_of_ble_eq_true rfl, R_X7_isHoldingTogether_0 R (an o125 ⟨Ab, ⟨rfl, x0, x1⟩, hs, br (fun w => bt (by decide) (R_X7_isHoldingTogether_10 R (key 0 (Nat.zero_le _) _ rfl w (fun q hq => by omega)))) (fun w => bf (by decide) (an (Or.inl rfl) (hQ.2 (fun z => w z.1))))⟩)⟩
  · exact h.elim
theorem P_X7_ordersWithAhead {J : JT} {Q : QT} (R : R_X7_ordersWithAhead J Q) {as : List Vl} {M : Mem} (h : nf G_X7_ordersWithAhead as M Q) : (enL as).length ≤ 1 ∧ J 0 (padL 1 (enL as)) [] M := by
  unfold nf G_X7_ordersWithAhead at h
  split at h
  · rename_i n
    obtain ⟨n0, hQ⟩ := h
    refine ⟨Nat.le_of_ble_eq_true rfl, R_X7_ordersWithAhead_0 R (br (fun q => R_X7_ordersWithAhead_9 R (R_X7_ordersWithAhead_15 R ?_)) (fun q => br (fun q2 => R_X7_ordersWithAhead_14 R (R_X7_ordersWithAhead_15 R ?_)) (fun q2 => R_X7_ordersWithAhead_9 R (R_X7_ordersWithAhead_15 R ?_))))⟩
    · have q : n = 0 := q
      rw [q] at hQ
      exact hQ
    · have q : ¬ n = 0 := q
      have q2 : ¬ n = 3 := q2
      unfold owA at hQ
      rw [if_neg (by omega)] at hQ
      exact hQ
    · have q2 : ¬ ¬ n = 3 := q2
      have q3 : n = 3 := by omega
      rw [q3] at hQ
      exact hQ
  · exact h.elim
theorem P_X7_ordersTurnedBy {J : JT} {Q : QT} (R : R_X7_ordersTurnedBy J Q) {as : List Vl} {M : Mem} (h : nf G_X7_ordersTurnedBy as M Q) : (enL as).length ≤ 4 ∧ J 0 (padL 4 (enL as)) [] M := by
  unfold nf G_X7_ordersTurnedBy at h
  split at h
  · rename_i k x
    obtain ⟨Ab, ⟨rfl, x0, x1⟩, hs, hQ⟩ := h
    obtain ⟨j, rfl⟩ : ∃ j : Nat, x = (j : Int) := ⟨x.toNat, by omega⟩
    have key : ∀ i : Nat, i ≤ 16 → ∀ x acc : Int, x = (i : Int) → acc = sumN (fun s => if otC Ab j s = true then owA (popc s) else 0) i → J 4 [some (vR 125), some (vI (j : Int)), some (vI acc), some (vI x)] [] M := by
      refine dn ?_ ?_
      · intro x acc hx ha
        rw [ha]
        exact R_X7_ordersTurnedBy_4 R (bt (show (16 : Int) ≤ x by omega) (R_X7_ordersTurnedBy_54 R hQ))
      · intro i hi ih x acc hx ha
        subst hx
        have ab : 0 ≤ acc ∧ acc ≤ (i : Int) * 6 := by rw [ha]; exact sumN_bd (by decide) (fun i _ => by unfold owA; repeat' split <;> omega)
        have e : orI (i : Int) (shlI 1 (j : Int)) = ((i ||| 2 ^ j : Nat) : Int) := by
          rw [shl1 j (by omega)]
          exact orI_n (by omega) (Nat.lt_trans (pw_lt (n := 4) (by omega)) (by decide))
        have lt : i ||| 2 ^ j < 2 ^ 4 := or_lt (by omega) (pw_lt (by omega))
        have skip : otC Ab j i = false → J 48 [some (vR 125), some (vI (j : Int)), some (vI acc), some (vI (i : Int))] [] M := fun q => R_X7_ordersTurnedBy_48 R (ih _ _ (wn rfl (by omega)) (by rw [sumN, q, ha]; simp))
        refine R_X7_ordersTurnedBy_4 R (bf (show ¬ (16 : Int) ≤ (i : Int) by omega) (an ⟨by omega, by omega, by omega, by omega⟩ (br (fun q => bt (by decide) (skip ?_)) (fun q => bf (by decide) (an o125 ⟨Ab, ⟨rfl, by omega, by omega⟩, hs, br (fun q2 => bt (by decide) (skip ?_)) (fun q2 => bf (by decide) ?_)⟩)))))
        · have q : i.testBit j = true := q
          simp [otC, q]
        · have q2 : winB Ab i = true := q2
          simp [otC, q2]
        · have q : ¬ i.testBit j = true := q
          have q2 : ¬ winB Ab i = true := q2
          refine an o125 ⟨Ab, ⟨rfl, show 0 ≤ orI (i : Int) (shlI 1 (j : Int)) by rw [e]; omega, show orI (i : Int) (shlI 1 (j : Int)) < 16 by rw [e]; omega⟩, hs, br (fun q3 => bf (by decide) (an ⟨by omega, by omega⟩ (an (by omega) (R_X7_ordersTurnedBy_48 R (ih _ _ (wn rfl (by omega)) ?_))))) (fun q3 => bt rfl (skip ?_))⟩
          · have q3 : winB Ab (orI (i : Int) (shlI 1 (j : Int))).toNat = true := q3
            rw [e, Int.toNat_natCast] at q3
            have e3 : otC Ab j i = true := by simp [otC, q, q2, q3]
            rw [sumN, if_pos e3, ← ha]
            have : 0 ≤ owA (popc i) ∧ owA (popc i) ≤ 6 := by unfold owA; split <;> omega
            exact w1 (by omega) (by omega) rfl
          · have q3 : ¬ winB Ab (orI (i : Int) (shlI 1 (j : Int))).toNat = true := q3
            rw [e, Int.toNat_natCast] at q3
            simp [otC, q3]
    exact ⟨Nat.le_of_ble_eq_true rfl, R_X7_ordersTurnedBy_0 R (key 0 (Nat.zero_le _) _ _ rfl rfl)⟩

  · exact h.elim