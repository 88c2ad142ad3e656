noncomputable def runT (Ab : Mem) (wo : Int) (tmf : Nat → Int) : Nat → Mem
  | 0 => sit0 Ab wo
  | n + 1 => stp Ab wo (n : Int) (tmf n) (runT Ab wo tmf n)
noncomputable def run (Ab : Mem) (wo : Int) (n : Nat) : Mem := runT Ab wo (fun m => (m : Int)) n
theorem runT_ok {Ab : Mem} (ho : HallOK Ab) (hl : LoanOK Ab 11 (Ab 10 5)) (wo : Int) (tmf : Nat → Int) : ∀ n, n ≤ 999 → SigOK Ab (runT Ab wo tmf n)
  | 0, _ => sit0_ok ho wo
  | n + 1, h => by
    rw [runT]
    exact sD_ok ho (sC_ok hl (sB_ok ho (sA_ok ho hl (runT_ok ho hl wo tmf n (by omega)))) _ (Nat.le_refl _)) (by omega) (by omega)
theorem if_iff {p q : Prop} [Decidable p] [Decidable q] {a b : Int} (h : p ↔ q) : (if p then a else b) = if q then a else b := by
  by_cases e : p
  · rw [if_pos e, if_pos (h.mp e)]
  · rw [if_neg e, if_neg (fun z => e (h.mpr z))]
def ix (k l s : Nat) : Nat := (k * 3 + l) * 2 + s
/-- what a motion's side counts by a law, in a sitting as told -/
noncomputable def cnM (Ab : Mem) (k : Nat) (law : Int) (side : Nat) : Int := cntF Ab (fun p => ldF Ab (run Ab (-1) ((Ab 7 k).toNat + 1)) (p : Int)) (if side = 0 then Ab 8 k else Ab 9 k) law
/-- the chronicle tells the sitting -/
def ChrRel (M : Mem) (Ab : Mem) : Prop := SP M 42 Ab ∧
  (∀ m t, m < 120 → t < nT Ab → M 66 (14 * m + t) = run Ab (-1) (m + 1) 0 t) ∧ (∀ m p, m < 120 → p < nP Ab → M 67 (10 * m + p) = run Ab (-1) (m + 1) 2 p) ∧
  (∀ k l s, k < nM Ab → l < 3 → s < 2 → M 68 (ix k l s) = cnM Ab k (l : Int) s) ∧ (∀ t, t < nT Ab → M 60 t = thC Ab (-1) t) ∧ (∀ p, p < nP Ab → M 64 p = run Ab (-1) 120 3 p)
def G_X3_placeOf : FN := fun as M Q => match as with
  | [.inl a, .inl b, .inl c] => (0 ≤ a ∧ a < 1000 ∧ 0 ≤ b ∧ b < 1000 ∧ 0 ≤ c ∧ c < 1000) ∧ Q (some (vI ((a * 3 + b) * 2 + c))) M
  | _ => False
def G_X3_counted : FN := fun as M Q => match as with
  | [.inr (.inl k), .inl a, .inl b, .inl c] => (k = 41 ∧ 0 ≤ a ∧ a < 8 ∧ 0 ≤ b ∧ b < 3 ∧ 0 ≤ c ∧ c < 2) ∧ Q (some (vI (M 68 (ix a.toNat b.toNat c.toNat)))) M
  | _ => False
def G_X3_isPassed : FN := fun as M Q => match as with
  | [.inr (.inl k), .inl a, .inl b] => (k = 41 ∧ 0 ≤ a ∧ a < 8 ∧ 0 ≤ b ∧ b < 3) ∧ bq (M 68 (ix a.toNat b.toNat 1) < M 68 (ix a.toNat b.toNat 0)) Q M
  | _ => False
def G_X3_passedBits : FN := fun as M Q => match as with
  | [.inr (.inl k), .inl b] => ∃ Ab, SP M 42 Ab ∧ (k = 41 ∧ 0 ≤ b ∧ b < 3) ∧ Q (some (vI (pbN (fun i => decide (M 68 (ix i b.toNat 1) < M 68 (ix i b.toNat 0))) (nM Ab) : Nat))) M
  | _ => False
def G_X3_holderOf : FN := fun as M Q => match as with
  | [.inr (.inl k), .inl t, .inl m] => (k = 41 ∧ 0 ≤ t ∧ t < 14 ∧ 0 ≤ m ∧ m < 120) ∧ Q (some (vI (M 66 (14 * m.toNat + t.toNat)))) M
  | _ => False
def G_X3_strengthOf : FN := fun as M Q => match as with
  | [.inr (.inl k), .inl t, .inl m] => (k = 41 ∧ 0 ≤ t ∧ t < 10 ∧ 0 ≤ m ∧ m < 120) ∧ Q (some (vI (M 67 (10 * m.toNat + t.toNat)))) M
  | _ => False
def G_X3_poundsWith : FN := fun as M Q => match as with
  | [.inr (.inl k), .inl w, .inl m] => ∃ Ab, SP M 42 Ab ∧ (k = 41 ∧ 0 ≤ m ∧ m < 120) ∧ Q (some (vI (sumN (fun t => if M 66 (14 * m.toNat + t) = w then Ab 1 t else 0) (nT Ab)))) M
  | _ => False
def G_X3_countMotionsOf : FN := fun as M Q => match as with
  | [.inr (.inl k), .inl m] => ∃ Ab, ∃ f : Nat → Int, SP M 42 Ab ∧ k = 41 ∧ (∀ p, p < nP Ab → M 62 p = f p ∧ 0 ≤ f p ∧ f p ≤ 1386) ∧ ∀ M' : Mem, (∀ u v, u ≠ 68 → M' u v = M u v) → (∀ k l s, k < 8 → l < 3 → s < 2 → M' 68 (ix k l s) = if k < nM Ab ∧ Ab 7 k = m then cntF Ab f (if s = 0 then Ab 8 k else Ab 9 k) (l : Int) else M 68 (ix k l s)) → Q none M'
  | _ => False
def G_X3_goThroughAll : FN := fun as M Q => match as with
  | [.inr (.inl k), .inr (.inl pl), .inr (.inl lo)] => ∃ Ab, (k = 41 ∧ (pl = 3 ∨ pl = 14) ∧ (lo = 25 ∨ lo = 30)) ∧ PlanRel M pl Ab ∧ LoanRel M lo Ab 11 (Ab 10 5) ∧ HallOK Ab ∧ LoanOK Ab 11 (Ab 10 5) ∧ ∀ M' : Mem, (∀ u v, (u < 41 ∨ (42 < u ∧ u < 59) ∨ 68 < u) → M' u v = M u v) → M' 41 4 = 1 → (M' 42 0).toNat = pl → (M' 42 1).toNat = lo → ChrRel M' Ab → Q none M'
  | _ => False
def b_X3_placeOf_0 : List AT := [tx_il 0, tx_ic 3, tx_bin f_mul, tx_il 1, tx_bin f_add, tx_ic 2, tx_bin f_mul, tx_il 2, tx_bin f_add, tx_ri]
def R_X3_placeOf (J : JT) (Q : QT) : Prop := (∀ ls st M, wpl J Q b_X3_placeOf_0 ls st M → J 0 ls st M)
theorem R_X3_placeOf_0 {J : JT} {Q : QT} (R : R_X3_placeOf J Q) {ls : Ls} {st : St} {M : Mem} (h : wpl J Q b_X3_placeOf_0 ls st M) : J 0 ls st M := R ls st M h
def b_X3_counted_0 : List AT := [tx_il 1, tx_il 2, tx_il 3, tx_call (nf G_X3_placeOf) 3, tx_is 4, tx_il 4, tx_ifz r_lt 33, tx_il 4, tx_al 0, tx_gr 3 27, tx_len, tx_cmp r_ge 33, tx_al 0, tx_gr 3 27, tx_il 4, tx_ia, tx_fall 34]
def b_X3_counted_33 : List AT := [tx_ic 0, tx_fall 34]
def b_X3_counted_34 : List AT := [tx_ri]
def R_X3_counted (J : JT) (Q : QT) : Prop := (∀ ls st M, wpl J Q b_X3_counted_0 ls st M → J 0 ls st M) ∧ (∀ ls st M, wpl J Q b_X3_counted_33 ls st M → J 33 ls st M) ∧ (∀ ls st M, wpl J Q b_X3_counted_34 ls st M → J 34 ls st M)
theorem R_X3_counted_0 {J : JT} {Q : QT} (R : R_X3_counted J Q) {ls : Ls} {st : St} {M : Mem} (h : wpl J Q b_X3_counted_0 ls st M) : J 0 ls st M := R.1 ls st M h
theorem R_X3_counted_33 {J : JT} {Q : QT} (R : R_X3_counted J Q) {ls : Ls} {st : St} {M : Mem} (h : wpl J Q b_X3_counted_33 ls st M) : J 33 ls st M := R.2.1 ls st M h
theorem R_X3_counted_34 {J : JT} {Q : QT} (R : R_X3_counted J Q) {ls : Ls} {st : St} {M : Mem} (h : wpl J Q b_X3_counted_34 ls st M) : J 34 ls st M := R.2.2 ls st M h
def b_X3_isPassed_0 : List AT := [tx_al 0, tx_il 1, tx_il 2, tx_ic 0, tx_callv 3 (nf G_X3_counted) 3, tx_al 0, tx_il 1, tx_il 2, tx_ic 1, tx_callv 3 (nf G_X3_counted) 3, tx_cmp r_le 21, tx_ic 1, tx_fall 22]
def b_X3_isPassed_21 : List AT := [tx_ic 0, tx_fall 22]
def b_X3_isPassed_22 : List AT := [tx_rz]
def R_X3_isPassed (J : JT) (Q : QT) : Prop := (∀ ls st M, wpl J Q b_X3_isPassed_0 ls st M → J 0 ls st M) ∧ (∀ ls st M, wpl J Q b_X3_isPassed_21 ls st M → J 21 ls st M) ∧ (∀ ls st M, wpl J Q b_X3_isPassed_22 ls st M → J 22 ls st M)
theorem R_X3_isPassed_0 {J : JT} {Q : QT} (R : R_X3_isPassed J Q) {ls : Ls} {st : St} {M : Mem} (h : wpl J Q b_X3_isPassed_0 ls st M) : J 0 ls st M := R.1 ls st M h
theorem R_X3_isPassed_21 {J : JT} {Q : QT} (R : R_X3_isPassed J Q) {ls : Ls} {st : St} {M : Mem} (h : wpl J Q b_X3_isPassed_21 ls st M) : J 21 ls st M := R.2.1 ls st M h
theorem R_X3_isPassed_22 {J : JT} {Q : QT} (R : R_X3_isPassed J Q) {ls : Ls} {st : St} {M : Mem} (h : wpl J Q b_X3_isPassed_22 ls st M) : J 22 ls st M := R.2.2 ls st M h
def b_X3_passedBits_0 : List AT := [tx_ic 0, tx_is 2, tx_ic 0, tx_is 3, tx_fall 4]
def b_X3_passedBits_4 : List AT := [tx_il 3, tx_al 0, tx_gr 3 1, tx_gm 8 0, tx_gi 6 10, tx_cmp r_ge 39, tx_al 0, tx_il 3, tx_il 1, tx_callv 3 (nf G_X3_isPassed) 2, tx_ifz r_eq 33, tx_il 2, tx_ic 1, tx_il 3, tx_bin shlI, tx_bin orI, tx_is 2, tx_fall 33]
def b_X3_passedBits_33 : List AT := [tx_inc 3 1, tx_fall 4]
def b_X3_passedBits_39 : List AT := [tx_il 2, tx_ri]
def R_X3_passedBits (J : JT) (Q : QT) : Prop := (∀ ls st M, wpl J Q b_X3_passedBits_0 ls st M → J 0 ls st M) ∧ (∀ ls st M, wpl J Q b_X3_passedBits_4 ls st M → J 4 ls st M) ∧ (∀ ls st M, wpl J Q b_X3_passedBits_33 ls st M → J 33 ls st M) ∧ (∀ ls st M, wpl J Q b_X3_passedBits_39 ls st M → J 39 ls st M)
theorem R_X3_passedBits_0 {J : JT} {Q : QT} (R : R_X3_passedBits J Q) {ls : Ls} {st : St} {M : Mem} (h : wpl J Q b_X3_passedBits_0 ls st M) : J 0 ls st M := R.1 ls st M h
theorem R_X3_passedBits_4 {J : JT} {Q : QT} (R : R_X3_passedBits J Q) {ls : Ls} {st : St} {M : Mem} (h : wpl J Q b_X3_passedBits_4 ls st M) : J 4 ls st M := R.2.1 ls st M h
theorem R_X3_passedBits_33 {J : JT} {Q : QT} (R : R_X3_passedBits J Q) {ls : Ls} {st : St} {M : Mem} (h : wpl J Q b_X3_passedBits_33 ls st M) : J 33 ls st M := R.2.2.1 ls st M h
theorem R_X3_passedBits_39 {J : JT} {Q : QT} (R : R_X3_passedBits J Q) {ls : Ls} {st : St} {M : Mem} (h : wpl J Q b_X3_passedBits_39 ls st M) : J 39 ls st M := R.2.2.2 ls st M h
def b_X3_holderOf_0 : List AT := [tx_il 2, tx_ic 14, tx_bin f_mul, tx_il 1, tx_bin f_add, tx_is 3, tx_il 3, tx_ifz r_lt 29, tx_il 3, tx_al 0, tx_gr 3 25, tx_len, tx_cmp r_ge 29, tx_al 0, tx_gr 3 25, tx_il 3, tx_ia, tx_fall 31]
def b_X3_holderOf_29 : List AT := [tx_ic (-2), tx_fall 31]
def b_X3_holderOf_31 : List AT := [tx_ri]
def R_X3_holderOf (J : JT) (Q : QT) : Prop := (∀ ls st M, wpl J Q b_X3_holderOf_0 ls st M → J 0 ls st M) ∧ (∀ ls st M, wpl J Q b_X3_holderOf_29 ls st M → J 29 ls st M) ∧ (∀ ls st M, wpl J Q b_X3_holderOf_31 ls st M → J 31 ls st M)
theorem R_X3_holderOf_0 {J : JT} {Q : QT} (R : R_X3_holderOf J Q) {ls : Ls} {st : St} {M : Mem} (h : wpl J Q b_X3_holderOf_0 ls st M) : J 0 ls st M := R.1 ls st M h
theorem R_X3_holderOf_29 {J : JT} {Q : QT} (R : R_X3_holderOf J Q) {ls : Ls} {st : St} {M : Mem} (h : wpl J Q b_X3_holderOf_29 ls st M) : J 29 ls st M := R.2.1 ls st M h
theorem R_X3_holderOf_31 {J : JT} {Q : QT} (R : R_X3_holderOf J Q) {ls : Ls} {st : St} {M : Mem} (h : wpl J Q b_X3_holderOf_31 ls st M) : J 31 ls st M := R.2.2 ls st M h
def b_X3_strengthOf_0 : List AT := [tx_il 2, tx_ic 10, tx_bin f_mul, tx_il 1, tx_bin f_add, tx_is 3, tx_il 3, tx_ifz r_lt 29, tx_il 3, tx_al 0, tx_gr 3 26, tx_len, tx_cmp r_ge 29, tx_al 0, tx_gr 3 26, tx_il 3, tx_ia, tx_fall 30]
def b_X3_strengthOf_29 : List AT := [tx_ic 0, tx_fall 30]
def b_X3_strengthOf_30 : List AT := [tx_ri]
def R_X3_strengthOf (J : JT) (Q : QT) : Prop := (∀ ls st M, wpl J Q b_X3_strengthOf_0 ls st M → J 0 ls st M) ∧ (∀ ls st M, wpl J Q b_X3_strengthOf_29 ls st M → J 29 ls st M) ∧ (∀ ls st M, wpl J Q b_X3_strengthOf_30 ls st M → J 30 ls st M)
theorem R_X3_strengthOf_0 {J : JT} {Q : QT} (R : R_X3_strengthOf J Q) {ls : Ls} {st : St} {M : Mem} (h : wpl J Q b_X3_strengthOf_0 ls st M) : J 0 ls st M := R.1 ls st M h
theorem R_X3_strengthOf_29 {J : JT} {Q : QT} (R : R_X3_strengthOf J Q) {ls : Ls} {st : St} {M : Mem} (h : wpl J Q b_X3_strengthOf_29 ls st M) : J 29 ls st M := R.2.1 ls st M h
theorem R_X3_strengthOf_30 {J : JT} {Q : QT} (R : R_X3_strengthOf J Q) {ls : Ls} {st : St} {M : Mem} (h : wpl J Q b_X3_strengthOf_30 ls st M) : J 30 ls st M := R.2.2 ls st M h
def b_X3_poundsWith_0 : List AT := [tx_al 0, tx_gr 3 1, tx_gm 8 0, tx_as 3, tx_ic 0, tx_is 4, tx_ic 0, tx_is 5, tx_fall 14]
def b_X3_poundsWith_14 : List AT := [tx_il 5, tx_al 3, tx_gi 6 3, tx_cmp r_ge 52, tx_al 0, tx_il 5, tx_il 2, tx_callv 3 (nf G_X3_holderOf) 2, tx_il 1, tx_cmp r_ne 46, tx_il 4, tx_al 3, tx_gr 6 4, tx_il 5, tx_ia, tx_bin f_add, tx_is 4, tx_fall 46]
def b_X3_poundsWith_46 : List AT := [tx_inc 5 1, tx_fall 14]
def b_X3_poundsWith_52 : List AT := [tx_il 4, tx_ri]
def R_X3_poundsWith (J : JT) (Q : QT) : Prop := (∀ ls st M, wpl J Q b_X3_poundsWith_0 ls st M → J 0 ls st M) ∧ (∀ ls st M, wpl J Q b_X3_poundsWith_14 ls st M → J 14 ls st M) ∧ (∀ ls st M, wpl J Q b_X3_poundsWith_46 ls st M → J 46 ls st M) ∧ (∀ ls st M, wpl J Q b_X3_poundsWith_52 ls st M → J 52 ls st M)
theorem R_X3_poundsWith_0 {J : JT} {Q : QT} (R : R_X3_poundsWith J Q) {ls : Ls} {st : St} {M : Mem} (h : wpl J Q b_X3_poundsWith_0 ls st M) : J 0 ls st M := R.1 ls st M h
theorem R_X3_poundsWith_14 {J : JT} {Q : QT} (R : R_X3_poundsWith J Q) {ls : Ls} {st : St} {M : Mem} (h : wpl J Q b_X3_poundsWith_14 ls st M) : J 14 ls st M := R.2.1 ls st M h
theorem R_X3_poundsWith_46 {J : JT} {Q : QT} (R : R_X3_poundsWith J Q) {ls : Ls} {st : St} {M : Mem} (h : wpl J Q b_X3_poundsWith_46 ls st M) : J 46 ls st M := R.2.2.1 ls st M h
theorem R_X3_poundsWith_52 {J : JT} {Q : QT} (R : R_X3_poundsWith J Q) {ls : Ls} {st : St} {M : Mem} (h : wpl J Q b_X3_poundsWith_52 ls st M) : J 52 ls st M := R.2.2.2 ls st M h
def b_X3_countMotionsOf_0 : List AT := [tx_al 0, tx_gr 3 1, tx_gm 8 0, tx_as 2, tx_ic 0, tx_is 3, tx_fall 10]
def b_X3_countMotionsOf_10 : List AT := [tx_il 3, tx_al 2, tx_gi 6 10, tx_cmp r_ge 103, tx_al 2, tx_gr 6 8, tx_il 3, tx_ia, tx_il 1, tx_cmp r_ne 97, tx_ic 0, tx_is 4, tx_fall 31]
def b_X3_countMotionsOf_31 : List AT := [tx_il 4, tx_ic 3, tx_cmp r_ge 97, tx_al 0, tx_gr 3 27, tx_il 3, tx_il 4, tx_ic 0, tx_call (nf G_X3_placeOf) 3, tx_al 0, tx_gr 3 1, tx_al 2, tx_gr 6 9, tx_il 3, tx_ia, tx_il 4, tx_callv 8 (nf G_X8_countOf) 2, tx_iax, tx_al 0, tx_gr 3 27, tx_il 3, tx_il 4, tx_ic 1, tx_call (nf G_X3_placeOf) 3, tx_al 0, tx_gr 3 1, tx_al 2, tx_gr 6 10, tx_il 3, tx_ia, tx_il 4, tx_callv 8 (nf G_X8_countOf) 2, tx_iax, tx_inc 4 1, tx_fall 31]
def b_X3_countMotionsOf_97 : List AT := [tx_inc 3 1, tx_fall 10]
def b_X3_countMotionsOf_103 : List AT := [tx_rv]
def R_X3_countMotionsOf (J : JT) (Q : QT) : Prop := (∀ ls st M, wpl J Q b_X3_countMotionsOf_0 ls st M → J 0 ls st M) ∧ (∀ ls st M, wpl J Q b_X3_countMotionsOf_10 ls st M → J 10 ls st M) ∧ (∀ ls st M, wpl J Q b_X3_countMotionsOf_31 ls st M → J 31 ls st M) ∧ (∀ ls st M, wpl J Q b_X3_countMotionsOf_97 ls st M → J 97 ls st M) ∧ (∀ ls st M, wpl J Q b_X3_countMotionsOf_103 ls st M → J 103 ls st M)
theorem R_X3_countMotionsOf_0 {J : JT} {Q : QT} (R : R_X3_countMotionsOf J Q) {ls : Ls} {st : St} {M : Mem} (h : wpl J Q b_X3_countMotionsOf_0 ls st M) : J 0 ls st M := R.1 ls st M h
theorem R_X3_countMotionsOf_10 {J : JT} {Q : QT} (R : R_X3_countMotionsOf J Q) {ls : Ls} {st : St} {M : Mem} (h : wpl J Q b_X3_countMotionsOf_10 ls st M) : J 10 ls st M := R.2.1 ls st M h
theorem R_X3_countMotionsOf_31 {J : JT} {Q : QT} (R : R_X3_countMotionsOf J Q) {ls : Ls} {st : St} {M : Mem} (h : wpl J Q b_X3_countMotionsOf_31 ls st M) : J 31 ls st M := R.2.2.1 ls st M h
theorem R_X3_countMotionsOf_97 {J : JT} {Q : QT} (R : R_X3_countMotionsOf J Q) {ls : Ls} {st : St} {M : Mem} (h : wpl J Q b_X3_countMotionsOf_97 ls st M) : J 97 ls st M := R.2.2.2.1 ls st M h
theorem R_X3_countMotionsOf_103 {J : JT} {Q : QT} (R : R_X3_countMotionsOf J Q) {ls : Ls} {st : St} {M : Mem} (h : wpl J Q b_X3_countMotionsOf_103 ls st M) : J 103 ls st M := R.2.2.2.2 ls st M h
def b_X3_goThroughAll_0 : List AT := [tx_al 0, tx_gr 3 1, tx_al 1, tx_al 2, tx_ic (-1), tx_callv 8 (nf G_X8_begin) 3, tx_ic 0, tx_is 3, tx_fall 12]
def b_X3_goThroughAll_12 : List AT := [tx_il 3, tx_ic 120, tx_cmp r_ge 80, tx_al 0, tx_gr 3 1, tx_il 3, tx_il 3, tx_callv 8 (nf G_X8_goThrough) 2, tx_al 0, tx_gr 3 1, tx_gr 8 17, tx_ic 0, tx_al 0, tx_gr 3 25, tx_il 3, tx_ic 14, tx_bin f_mul, tx_ic 14, tx_acp, tx_al 0, tx_gr 3 1, tx_gr 8 21, tx_ic 0, tx_al 0, tx_gr 3 26, tx_il 3, tx_ic 10, tx_bin f_mul, tx_ic 10, tx_acp, tx_al 0, tx_il 3, tx_callv 3 (nf G_X3_countMotionsOf) 1, tx_inc 3 1, tx_fall 12]
def b_X3_goThroughAll_80 : List AT := [tx_al 0, tx_ic 1, tx_pz 3 4, tx_rv]
def R_X3_goThroughAll (J : JT) (Q : QT) : Prop := (∀ ls st M, wpl J Q b_X3_goThroughAll_0 ls st M → J 0 ls st M) ∧ (∀ ls st M, wpl J Q b_X3_goThroughAll_12 ls st M → J 12 ls st M) ∧ (∀ ls st M, wpl J Q b_X3_goThroughAll_80 ls st M → J 80 ls st M)
theorem R_X3_goThroughAll_0 {J : JT} {Q : QT} (R : R_X3_goThroughAll J Q) {ls : Ls} {st : St} {M : Mem} (h : wpl J Q b_X3_goThroughAll_0 ls st M) : J 0 ls st M := R.1 ls st M h
theorem R_X3_goThroughAll_12 {J : JT} {Q : QT} (R : R_X3_goThroughAll J Q) {ls : Ls} {st : St} {M : Mem} (h : wpl J Q b_X3_goThroughAll_12 ls st M) : J 12 ls st M := R.2.1 ls st M h
theorem R_X3_goThroughAll_80 {J : JT} {Q : QT} (R : R_X3_goThroughAll J Q) {ls : Ls} {st : St} {M : Mem} (h : wpl J Q b_X3_goThroughAll_80 ls st M) : J 80 ls st M := R.2.2 ls st M h
theorem o41 : OB 41 3 := ⟨rfl, rfl⟩
theorem o42 : OB 42 8 := ⟨rfl, rfl⟩
theorem P_X3_placeOf {J : JT} {Q : QT} (R : R_X3_placeOf J Q) {as : List Vl} {M : Mem} (h : nf G_X3_placeOf as M Q) : (enL as).length ≤ 3 ∧ J 0 (padL 3 (enL as)) [] M := by
  unfold nf G_X3_placeOf at h
  split at h
  · rename_i a b c
    obtain ⟨⟨a0, a1, b0, b1, c0, c1⟩, hQ⟩ := h
    have e : f_add (f_mul (f_add (f_mul a 3) b) 2) c = (a * 3 + b) * 2 + c := by
      unfold f_add f_mul
      rw [w1 (x := a * 3) (y := a * 3) (by omega) (by omega) rfl, w1 (x := a * 3 + b) (y := a * 3 + b) (by omega) (by omega) rfl, w1 (x := (a * 3 + b) * 2) (y := (a * 3 + b) * 2) (by omega) (by omega) rfl]
      exact w1 (by omega) (by omega) rfl
    rw [← e] at hQ
    exact ⟨Nat.le_of_ble_eq_true rfl, R_X3_placeOf_0 R hQ⟩
  · exact h.elim
theorem P_X3_counted {J : JT} {Q : QT} (R : R_X3_counted J Q) {as : List Vl} {M : Mem} (h : nf G_X3_counted as M Q) : (enL as).length ≤ 5 ∧ J 0 (padL 5 (enL as)) [] M := by
  unfold nf G_X3_counted at h
  split at h
  · rename_i k a b c
    obtain ⟨⟨rfl, a0, a1, b0, b1, c0, c1⟩, hQ⟩ := h
    have e : ((a * 3 + b) * 2 + c).toNat = ix a.toNat b.toNat c.toNat := by unfold ix; omega
    refine ⟨Nat.le_of_ble_eq_true rfl, R_X3_counted_0 R (an ⟨a0, by omega, b0, by omega, c0, by omega⟩ (bf (show ¬ (a * 3 + b) * 2 + c < 0 by omega) (an o41 (an (sh_k (a := 68) (kd := 1) (n := 48) (x := 0) (y := 0) rfl (by decide) (by decide)) (bf (show ¬ ((SH 68).2.1 : Int) ≤ (a * 3 + b) * 2 + c by rw [sh_len (a := 68) (kd := 1) (n := 48) (x := 0) (y := 0) rfl]; omega) (an o41 (an (ak_of (a := 68) (n := 48) (x := 0) (y := 0) rfl (by omega) (by omega)) (R_X3_counted_34 R ?_))))))))⟩
    show Q (.inl (some (vI (M 68 ((a * 3 + b) * 2 + c).toNat)))) M
    rw [e]
    exact hQ
  · exact h.elim
theorem P_X3_isPassed {J : JT} {Q : QT} (R : R_X3_isPassed J Q) {as : List Vl} {M : Mem} (h : nf G_X3_isPassed as M Q) : (enL as).length ≤ 3 ∧ J 0 (padL 3 (enL as)) [] M := by
  unfold nf G_X3_isPassed at h
  split at h
  · rename_i k a b
    obtain ⟨⟨rfl, a0, a1, b0, b1⟩, hQ⟩ := h
    refine ⟨Nat.le_of_ble_eq_true rfl, R_X3_isPassed_0 R (an o41 (an ⟨rfl, a0, a1, b0, b1, by decide, by decide⟩ (an o41 (an ⟨rfl, a0, a1, b0, b1, by decide, by decide⟩ (br (fun q => ?_) (fun q => ?_))))))⟩
    · have q : M 68 (ix a.toNat b.toNat 0) ≤ M 68 (ix a.toNat b.toNat 1) := q
      exact R_X3_isPassed_21 R (R_X3_isPassed_22 R (an (Or.inl rfl) (hQ.2 (by omega))))
    · have q : ¬ M 68 (ix a.toNat b.toNat 0) ≤ M 68 (ix a.toNat b.toNat 1) := q
      exact R_X3_isPassed_22 R (an (Or.inr rfl) (hQ.1 (by omega)))
  · exact h.elim
theorem P_X3_passedBits {J : JT} {Q : QT} (R : R_X3_passedBits J Q) {as : List Vl} {M : Mem} (h : nf G_X3_passedBits as M Q) : (enL as).length ≤ 4 ∧ J 0 (padL 4 (enL as)) [] M := by
  unfold nf G_X3_passedBits at h
  split at h
  · rename_i k b
    obtain ⟨Ab, hs, ⟨rfl, b0, b1⟩, hQ⟩ := h
    obtain ⟨hpk, hp, ho⟩ := hs.pl
    obtain ⟨q1, q2⟩ := nM_le ho
    have key : ∀ i, i ≤ nM Ab → ∀ x acc : Int, x = (i : Int) → acc = ((pbN (fun i => decide (M 68 (ix i b.toNat 1) < M 68 (ix i b.toNat 0))) i : Nat) : Int) → J 4 [some (vR 41), some (vI b), some (vI acc), some (vI x)] [] M := by
      refine dn ?_ ?_
      · intro x acc hx ha
        rw [ha]
        exact R_X3_passedBits_4 R (an o41 (an o42 (an (pl_ob hpk) (bt (show M (M 42 0).toNat 10 ≤ x by rw [hp.2.2.2.1]; omega) (R_X3_passedBits_39 R hQ)))))
      · intro i hi ih x acc hx ha
        subst hx
        refine R_X3_passedBits_4 R (an o41 (an o42 (an (pl_ob hpk) (bf (show ¬ M (M 42 0).toNat 10 ≤ (i : Int) by rw [hp.2.2.2.1]; omega) (an o41 (an ⟨rfl, by omega, by omega, b0, b1⟩ (br (fun h2 => bf (by decide) (R_X3_passedBits_33 R (ih _ _ (wn rfl (by omega)) ?_))) (fun h2 => bt rfl (R_X3_passedBits_33 R (ih _ _ (wn rfl (by omega)) ?_))))))))))
        · rw [ha]
          exact or_step (c := fun i => decide (M 68 (ix i b.toNat 1) < M 68 (ix i b.toNat 0))) (by omega) (by simpa using h2)
        · have h2 : ¬ M 68 (ix i b.toNat 1) < M 68 (ix i b.toNat 0) := h2
          rw [pbN, if_neg (by simpa using h2), ha]
          rfl
    exact ⟨Nat.le_of_ble_eq_true rfl, R_X3_passedBits_0 R (key 0 (Nat.zero_le _) _ _ rfl rfl)⟩
  · exact h.elim
theorem P_X3_holderOf {J : JT} {Q : QT} (R : R_X3_holderOf J Q) {as : List Vl} {M : Mem} (h : nf G_X3_holderOf as M Q) : (enL as).length ≤ 4 ∧ J 0 (padL 4 (enL as)) [] M := by
  unfold nf G_X3_holderOf at h
  split at h
  · rename_i k t m
    obtain ⟨⟨rfl, t0, t1, m0, m1⟩, hQ⟩ := h
    have e : f_add (f_mul m 14) t = m * 14 + t := by
      unfold f_add f_mul
      rw [w1 (x := m * 14) (y := m * 14) (by omega) (by omega) rfl]
      exact w1 (by omega) (by omega) rfl
    refine ⟨Nat.le_of_ble_eq_true rfl, R_X3_holderOf_0 R ?_⟩
    show (f_add (f_mul m 14) t < 0 → J 29 [some (vR 41), some (vI t), some (vI m), some (vI (f_add (f_mul m 14) t))] [] M) ∧ _
    rw [e]
    refine bf (show ¬ m * 14 + t < 0 by omega) (an o41 (an (sh_k (a := 66) (kd := 1) (n := 1680) (x := 0) (y := 0) rfl (by decide) (by decide)) (bf ?_ (an o41 (an ?_ (R_X3_holderOf_31 R ?_))))))
    · show ¬ ((SH 66).2.1 : Int) ≤ m * 14 + t
      rw [sh_len (a := 66) (kd := 1) (n := 1680) (x := 0) (y := 0) rfl]; omega
    · exact ak_of (a := 66) (n := 1680) (x := 0) (y := 0) rfl (by omega) (by omega)
    · show Q (.inl (some (vI (M 66 (m * 14 + t).toNat)))) M
      rw [show (m * 14 + t).toNat = 14 * m.toNat + t.toNat by omega]
      exact hQ
  · exact h.elim
theorem P_X3_strengthOf {J : JT} {Q : QT} (R : R_X3_strengthOf J Q) {as : List Vl} {M : Mem} (h : nf G_X3_strengthOf as M Q) : (enL as).length ≤ 4 ∧ J 0 (padL 4 (enL as)) [] M := by
  unfold nf G_X3_strengthOf at h
  split at h
  · rename_i k t m
    obtain ⟨⟨rfl, t0, t1, m0, m1⟩, hQ⟩ := h
    have e : f_add (f_mul m 10) t = m * 10 + t := by
      unfold f_add f_mul
      rw [w1 (x := m * 10) (y := m * 10) (by omega) (by omega) rfl]
      exact w1 (by omega) (by omega) rfl
    refine ⟨Nat.le_of_ble_eq_true rfl, R_X3_strengthOf_0 R ?_⟩
    show (f_add (f_mul m 10) t < 0 → J 29 [some (vR 41), some (vI t), some (vI m), some (vI (f_add (f_mul m 10) t))] [] M) ∧ _
    rw [e]
    refine bf (show ¬ m * 10 + t < 0 by omega) (an o41 (an (sh_k (a := 67) (kd := 1) (n := 1200) (x := 0) (y := 0) rfl (by decide) (by decide)) (bf ?_ (an o41 (an ?_ (R_X3_strengthOf_30 R ?_))))))
    · show ¬ ((SH 67).2.1 : Int) ≤ m * 10 + t
      rw [sh_len (a := 67) (kd := 1) (n := 1200) (x := 0) (y := 0) rfl]; omega
    · exact ak_of (a := 67) (n := 1200) (x := 0) (y := 0) rfl (by omega) (by omega)
    · show Q (.inl (some (vI (M 67 (m * 10 + t).toNat)))) M
      rw [show (m * 10 + t).toNat = 10 * m.toNat + t.toNat by omega]
      exact hQ
  · exact h.elim
theorem P_X3_poundsWith {J : JT} {Q : QT} (R : R_X3_poundsWith J Q) {as : List Vl} {M : Mem} (h : nf G_X3_poundsWith as M Q) : (enL as).length ≤ 6 ∧ J 0 (padL 6 (enL as)) [] M := by
  unfold nf G_X3_poundsWith at h
  split at h
  · rename_i k w m
    obtain ⟨Ab, hs, ⟨rfl, m0, m1⟩, hQ⟩ := h
    obtain ⟨hpk, hp, ho⟩ := hs.pl
    obtain ⟨n1, n2⟩ := nT_le ho
    have key : ∀ i, i ≤ nT Ab → ∀ x acc : Int, x = (i : Int) → acc = sumN (fun t => if M 66 (14 * m.toNat + t) = w then Ab 1 t else 0) i → J 14 [some (vR 41), some (vI w), some (vI m), some (vR (M 42 0).toNat), some (vI acc), some (vI x)] [] M := by
      refine dn ?_ ?_
      · intro x acc hx ha
        rw [ha]
        exact R_X3_poundsWith_14 R (an (pl_ob hpk) (bt (show M (M 42 0).toNat 3 ≤ x by rw [hp.2.1]; omega) (R_X3_poundsWith_52 R hQ)))
      · intro i hi ih x acc hx ha
        subst hx
        have e4 : M ((M 42 0).toNat + 4) i = Ab 1 i := (hp.2.2.2.2.2.2.1 i hi).2.1
        have bd := wt_bd ho (c := fun t => M 66 (14 * m.toNat + t) = w) (n := i + 1) (by omega)
        refine R_X3_poundsWith_14 R (an (pl_ob hpk) (bf (show ¬ M (M 42 0).toNat 3 ≤ (i : Int) by rw [hp.2.1]; omega) (an o41 (an ⟨rfl, by omega, by omega, m0, m1⟩ (br (fun q => ?_) (fun q => an (pl_ob hpk) (an (ak_of (pl_4 hpk) (by omega) (by omega)) ?_)))))))
        · have q : ¬ M 66 (14 * m.toNat + i) = w := q
          exact R_X3_poundsWith_46 R (ih _ _ (wn rfl (by omega)) (by rw [sumN, if_neg q, ha]; omega))
        · have q : M 66 (14 * m.toNat + i) = w := Classical.not_not.mp q
          refine R_X3_poundsWith_46 R (ih _ _ (wn rfl (by omega)) ?_)
          rw [sumN, if_pos q] at bd ⊢
          show w32 (acc + M ((M 42 0).toNat + 4) i) = _
          rw [e4, ha]
          exact w1 (by omega) (by omega) rfl
    exact ⟨Nat.le_of_ble_eq_true rfl, R_X3_poundsWith_0 R (an o41 (an o42 (key 0 (Nat.zero_le _) _ _ rfl rfl)))⟩
  · exact h.elim
theorem P_X3_countMotionsOf {J : JT} {Q : QT} (R : R_X3_countMotionsOf J Q) {as : List Vl} {M : Mem} (h : nf G_X3_countMotionsOf as M Q) : (enL as).length ≤ 5 ∧ J 0 (padL 5 (enL as)) [] M := by
  unfold nf G_X3_countMotionsOf at h
  split at h
  · rename_i k m
    obtain ⟨Ab, f, hs, rfl, hf, hQ⟩ := h
    have step : ∀ M' : Mem, (∀ u v, u ≠ 68 → M' u v = M u v) → SP M' 42 Ab := fun M' h => hs.kept (fun u v hu => h u v (by omega))
    obtain ⟨q1, q2⟩ := nM_le hs.pl.2.2
    have key : ∀ i, i ≤ nM Ab → ∀ (x : Int) (M' : Mem) (z : Option Vl), x = (i : Int) → (∀ u v, u ≠ 68 → M' u v = M u v) → (∀ k l s, k < 8 → l < 3 → s < 2 → M' 68 (ix k l s) = if k < i ∧ Ab 7 k = m then cntF Ab f (if s = 0 then Ab 8 k else Ab 9 k) (l : Int) else M 68 (ix k l s)) → J 10 [some (vR 41), some (vI m), some (vR (M 42 0).toNat), some (vI x), z] [] M' := by
      refine dn ?_ ?_
      · intro x M' z hx h1 h2
        obtain ⟨hpk, hp, ho⟩ := (step M' h1).pl
        have e0 : M' 42 0 = M 42 0 := h1 _ _ (by decide)
        rw [e0] at hpk hp
        exact R_X3_countMotionsOf_10 R (an (pl_ob hpk) (bt (show M' (M 42 0).toNat 10 ≤ x by rw [hp.2.2.2.1]; omega) (R_X3_countMotionsOf_103 R (hQ M' h1 h2))))
      · intro i hi ih x M' z hx h1 h2
        obtain ⟨hpk, hp, ho⟩ := (step M' h1).pl
        have e0 : M' 42 0 = M 42 0 := h1 _ _ (by decide)
        rw [e0] at hpk hp
        subst hx
        obtain ⟨e1, e2, e3⟩ := hp.2.2.2.2.2.2.2.2 i hi
        obtain ⟨b1, b2⟩ := mo_bits ho hi
        refine R_X3_countMotionsOf_10 R (an (pl_ob hpk) (bf (show ¬ M' (M 42 0).toNat 10 ≤ (i : Int) by rw [hp.2.2.2.1]; omega) (an (pl_ob hpk) (an (ak_of (pl_8 hpk) (by omega) (by omega)) (br (fun q => ?_) (fun q => ?_))))))
        · have q : ¬ Ab 7 i = m := fun z => q (e1.trans z)
          refine R_X3_countMotionsOf_97 R (ih _ _ _ (wn rfl (by omega)) h1 (fun k l s hk hl hs => ?_))
          rw [h2 k l s hk hl hs]
          refine if_iff ⟨fun e => ⟨by omega, e.2⟩, fun z => ⟨?_, z.2⟩⟩
          by_cases e4 : k = i
          · subst e4; exact absurd z.2 q
          · omega
        · have q : Ab 7 i = m := e1.symm.trans (Classical.not_not.mp q)
          have inner : ∀ j : Nat, j ≤ 3 → ∀ (y : Int) (M2 : Mem), y = (j : Int) → (∀ u v, u ≠ 68 → M2 u v = M u v) → (∀ k l s, k < 8 → l < 3 → s < 2 → M2 68 (ix k l s) = if (k < i ∨ (k = i ∧ l < j)) ∧ Ab 7 k = m then cntF Ab f (if s = 0 then Ab 8 k else Ab 9 k) (l : Int) else M 68 (ix k l s)) → J 31 [some (vR 41), some (vI m), some (vR (M 42 0).toNat), some (vI (i : Int)), some (vI y)] [] M2 := by
            refine dn ?_ ?_
            · intro y M2 hy g1 g2
              refine R_X3_countMotionsOf_31 R (bt (show (3 : Int) ≤ y by omega) (R_X3_countMotionsOf_97 R (ih _ _ _ (wn rfl (by omega)) g1 (fun k l s hk hl hs => ?_))))
              rw [g2 k l s hk hl hs]
              exact if_iff ⟨fun e => ⟨by omega, e.2⟩, fun e => ⟨by omega, e.2⟩⟩
            · intro j hj ihj y M2 hy g1 g2
              subst hy
              have sp2 := step M2 g1
              obtain ⟨hpk2, hp2, -⟩ := sp2.pl
              have e02 : M2 42 0 = M 42 0 := g1 _ _ (by decide)
              rw [e02] at hpk2 hp2
              obtain ⟨-, c2, c3⟩ := hp2.2.2.2.2.2.2.2.2 i hi
              have c2' : M2 ((M 42 0).toNat + 9) ((i : Int)).toNat = Ab 8 i := c2
              have a68 : ∀ s : Nat, s < 2 → AK 1 68 (((i : Int) * 3 + (j : Int)) * 2 + (s : Int)) := fun s hs => ak_of (a := 68) (n := 48) (x := 0) (y := 0) rfl (by omega) (by omega)
              have ld2 : ∀ M3 : Mem, (∀ u v, u ≠ 68 → M3 u v = M u v) → ∀ p, p < nP Ab → M3 (42 + 20) p = f p ∧ 0 ≤ f p ∧ f p ≤ 1386 := by
                intro M3 g3 p hp
                rw [g3 _ _ (by decide)]
                exact hf p hp
              have ei : ∀ s : Nat, (((i : Int) * 3 + (j : Int)) * 2 + (s : Int)).toNat = ix i j s := fun s => by unfold ix; omega
              refine R_X3_countMotionsOf_31 R (bf (show ¬ (3 : Int) ≤ (j : Int) by omega) (an o41 (an ⟨by omega, by omega, by omega, by omega, by decide, by decide⟩ (an o41 (an (pl_ob hpk2) (an (ak_of (pl_9 hpk2) (by omega) (by omega)) (an o42 ⟨Ab, f, sp2, ld2 M2 g1, by rw [c2']; exact b1, an (a68 0 (by decide)) ?_⟩)))))))
              rw [c2']
              have h3 : ∀ u v, u ≠ 68 → up M2 68 (((i : Int) * 3 + (j : Int)) * 2 + ((0 : Nat) : Int)).toNat (cntF Ab f (Ab 8 i) (j : Int)) u v = M u v := fun u v hu => by rw [up_ne (by omega)]; exact g1 u v hu
              generalize hM3 : up M2 68 (((i : Int) * 3 + (j : Int)) * 2 + ((0 : Nat) : Int)).toNat (cntF Ab f (Ab 8 i) (j : Int)) = M3 at h3
              have sp3 := step M3 h3
              obtain ⟨hpk3, hp3, -⟩ := sp3.pl
              have e03 : M3 42 0 = M 42 0 := h3 _ _ (by decide)
              rw [e03] at hpk3 hp3
              have c3' : M3 ((M 42 0).toNat + 10) ((i : Int)).toNat = Ab 9 i := (hp3.2.2.2.2.2.2.2.2 i hi).2.2
              refine an o41 (an ⟨by omega, by omega, by omega, by omega, by decide, by decide⟩ (an o41 (an (pl_ob hpk3) (an (ak_of (pl_10 hpk3) (by omega) (by omega)) (an o42 ⟨Ab, f, ?_, ?_, ?_, an (a68 1 (by decide)) ?_⟩)))))
              · exact sp3
              · exact ld2 M3 h3
              · rw [c3']
                exact b2
              · rw [c3']
                refine ihj _ _ (wn rfl (by omega)) (fun u v hu => by rw [up_ne (by omega)]; exact h3 u v hu) (fun k l s hk hl hs => ?_)
                rw [show (((i : Int) * 3 + (j : Int)) * 2 + 1).toNat = ix i j 1 from ei 1]
                by_cases e : k = i ∧ l = j
                · obtain ⟨rfl, rfl⟩ := e
                  rw [if_pos ⟨Or.inr ⟨rfl, by omega⟩, q⟩]
                  rcases (show s = 0 ∨ s = 1 by omega) with rfl | rfl
                  · rw [up_ne (by unfold ix; omega), ← hM3, ei 0, up_eq]
                    rfl
                  · rw [up_eq]
                    rfl
                · rw [up_ne (by unfold ix; omega), ← hM3, ei 0, up_ne (by unfold ix; omega), g2 k l s hk hl hs]
                  exact if_iff ⟨fun e => ⟨by omega, e.2⟩, fun e => ⟨by omega, e.2⟩⟩
          refine inner 0 (by decide) _ _ rfl h1 (fun k l s hk hl hs => ?_)
          rw [h2 k l s hk hl hs]
          exact if_iff ⟨fun e => ⟨Or.inl e.1, e.2⟩, fun e => ⟨by omega, e.2⟩⟩
    refine ⟨Nat.le_of_ble_eq_true rfl, R_X3_countMotionsOf_0 R (an o41 (an o42 (key 0 (Nat.zero_le _) _ _ _ rfl (fun _ _ _ => rfl) (fun k l s hk hl hs => by rw [if_neg (by omega)]))))⟩

  · exact h.elim