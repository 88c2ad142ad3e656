/-! Plan -/
def ownP (Ab : Mem) (p : Int) : Int := sumN (fun t => if Ab 0 t = p then Ab 1 t else 0) (nT Ab)
def allP (Ab : Mem) : Int := sumN (fun t => Ab 1 t) (nT Ab)
def passF (Ab : Mem) (t : Nat) : Int := if Ab 2 t < 0 then 0 else (Ab 1 t + Ab 6 (Ab 2 t).toNat - 1) / Ab 6 (Ab 2 t).toNat
def dfr (Ab : Mem) (wo : Int) : Nat → Int → Int
  | 0, _ => 0
  | t + 1, d => if (t : Int) ≠ wo ∧ Ab 2 t = d then max (Ab 3 t) (dfr Ab wo t d) + passF Ab t else dfr Ab wo t d
def thF (Ab : Mem) (wo : Int) (t : Nat) : Int := if Ab 2 t < 0 then 0 else max (Ab 3 t) (dfr Ab wo t (Ab 2 t)) + passF Ab t
def thC (Ab : Mem) (wo : Int) (t : Nat) : Int := if (t : Int) = wo then 1000000 else thF Ab wo t
def G_X6_hasPerson : FN := fun as M Q => match as with
  | [.inr (.inl k), .inl x] => ∃ Ab, PL M k Ab ∧ bq (0 ≤ x ∧ x < Ab 10 1) Q M
  | _ => False
def G_X6_hasThing : FN := fun as M Q => match as with
  | [.inr (.inl k), .inl x] => ∃ Ab, PL M k Ab ∧ bq (0 ≤ x ∧ x < Ab 10 2) Q M
  | _ => False
def G_X6_hasMotion : FN := fun as M Q => match as with
  | [.inr (.inl k), .inl x] => ∃ Ab, PL M k Ab ∧ bq (0 ≤ x ∧ x < Ab 10 4) Q M
  | _ => False
def G_X6_allPersons : FN := fun as M Q => match as with
  | [.inr (.inl k)] => (PlanAt k ∧ 0 ≤ M k 0 ∧ M k 0 ≤ 10) ∧ Q (some (vI (((2 ^ (M k 0).toNat : Nat) : Int) - 1))) M
  | _ => False
def G_X6_allThings : FN := fun as M Q => match as with
  | [.inr (.inl k)] => ∃ Ab, PL M k Ab ∧ Q (some (vI (((2 ^ nT Ab : Nat) : Int) - 1))) M
  | _ => False
def G_X6_hasPersons : FN := fun as M Q => match as with
  | [.inr (.inl k), .inl x] => ∃ Ab, PL M k Ab ∧ bq (0 ≤ x ∧ x < ((2 ^ nP Ab : Nat) : Int)) Q M
  | _ => False
def G_X6_ownPounds : FN := fun as M Q => match as with
  | [.inr (.inl k), .inl p] => ∃ Ab, PL M k Ab ∧ Q (some (vI (ownP Ab p))) M
  | _ => False
def G_X6_allPounds : FN := fun as M Q => match as with
  | [.inr (.inl k)] => ∃ Ab, PL M k Ab ∧ Q (some (vI (allP Ab))) M
  | _ => False
def G_X6_passage : FN := fun as M Q => match as with
  | [.inr (.inl k), .inl t] => ∃ Ab, PL M k Ab ∧ (0 ≤ t ∧ t < Ab 10 2) ∧ Q (some (vI (passF Ab t.toNat))) M
  | _ => False
def G_X6_findThrough : FN := fun as M Q => match as with
  | [.inr (.inl k), .inr (.inl a), .inl wo, .inr (.inl b)] => ∃ Ab, PL M k Ab ∧ (SH a = (1, 14, 0, 0) ∧ SH b = (1, 3, 0, 0) ∧ a ≠ b ∧ (a < k ∨ k + 10 < a) ∧ (b < k ∨ k + 10 < b)) ∧
      ∀ M' : Mem, (∀ x y, x ≠ a → x ≠ b → M' x y = M x y) → (∀ t, t < nT Ab → M' a t = thC Ab wo t) → Q none M'
  | _ => False
def b_X6_hasPerson_0 : List AT := [tx_il 1, tx_ifz r_lt 16, tx_il 1, tx_al 0, tx_gi 6 0, tx_cmp r_ge 16, tx_ic 1, tx_fall 17]
def b_X6_hasPerson_16 : List AT := [tx_ic 0, tx_fall 17]
def b_X6_hasPerson_17 : List AT := [tx_rz]
def R_X6_hasPerson (J : JT) (Q : QT) : Prop := (∀ ls st M, wpl J Q b_X6_hasPerson_0 ls st M → J 0 ls st M) ∧ (∀ ls st M, wpl J Q b_X6_hasPerson_16 ls st M → J 16 ls st M) ∧ (∀ ls st M, wpl J Q b_X6_hasPerson_17 ls st M → J 17 ls st M)
theorem R_X6_hasPerson_0 {J : JT} {Q : QT} (R : R_X6_hasPerson J Q) {ls : Ls} {st : St} {M : Mem} (h : wpl J Q b_X6_hasPerson_0 ls st M) : J 0 ls st M := R.1 ls st M h
theorem R_X6_hasPerson_16 {J : JT} {Q : QT} (R : R_X6_hasPerson J Q) {ls : Ls} {st : St} {M : Mem} (h : wpl J Q b_X6_hasPerson_16 ls st M) : J 16 ls st M := R.2.1 ls st M h
theorem R_X6_hasPerson_17 {J : JT} {Q : QT} (R : R_X6_hasPerson J Q) {ls : Ls} {st : St} {M : Mem} (h : wpl J Q b_X6_hasPerson_17 ls st M) : J 17 ls st M := R.2.2 ls st M h
def b_X6_hasThing_0 : List AT := [tx_il 1, tx_ifz r_lt 16, tx_il 1, tx_al 0, tx_gi 6 3, tx_cmp r_ge 16, tx_ic 1, tx_fall 17]
def b_X6_hasThing_16 : List AT := [tx_ic 0, tx_fall 17]
def b_X6_hasThing_17 : List AT := [tx_rz]
def R_X6_hasThing (J : JT) (Q : QT) : Prop := (∀ ls st M, wpl J Q b_X6_hasThing_0 ls st M → J 0 ls st M) ∧ (∀ ls st M, wpl J Q b_X6_hasThing_16 ls st M → J 16 ls st M) ∧ (∀ ls st M, wpl J Q b_X6_hasThing_17 ls st M → J 17 ls st M)
theorem R_X6_hasThing_0 {J : JT} {Q : QT} (R : R_X6_hasThing J Q) {ls : Ls} {st : St} {M : Mem} (h : wpl J Q b_X6_hasThing_0 ls st M) : J 0 ls st M := R.1 ls st M h
theorem R_X6_hasThing_16 {J : JT} {Q : QT} (R : R_X6_hasThing J Q) {ls : Ls} {st : St} {M : Mem} (h : wpl J Q b_X6_hasThing_16 ls st M) : J 16 ls st M := R.2.1 ls st M h
theorem R_X6_hasThing_17 {J : JT} {Q : QT} (R : R_X6_hasThing J Q) {ls : Ls} {st : St} {M : Mem} (h : wpl J Q b_X6_hasThing_17 ls st M) : J 17 ls st M := R.2.2 ls st M h
def b_X6_hasMotion_0 : List AT := [tx_il 1, tx_ifz r_lt 16, tx_il 1, tx_al 0, tx_gi 6 10, tx_cmp r_ge 16, tx_ic 1, tx_fall 17]
def b_X6_hasMotion_16 : List AT := [tx_ic 0, tx_fall 17]
def b_X6_hasMotion_17 : List AT := [tx_rz]
def R_X6_hasMotion (J : JT) (Q : QT) : Prop := (∀ ls st M, wpl J Q b_X6_hasMotion_0 ls st M → J 0 ls st M) ∧ (∀ ls st M, wpl J Q b_X6_hasMotion_16 ls st M → J 16 ls st M) ∧ (∀ ls st M, wpl J Q b_X6_hasMotion_17 ls st M → J 17 ls st M)
theorem R_X6_hasMotion_0 {J : JT} {Q : QT} (R : R_X6_hasMotion J Q) {ls : Ls} {st : St} {M : Mem} (h : wpl J Q b_X6_hasMotion_0 ls st M) : J 0 ls st M := R.1 ls st M h
theorem R_X6_hasMotion_16 {J : JT} {Q : QT} (R : R_X6_hasMotion J Q) {ls : Ls} {st : St} {M : Mem} (h : wpl J Q b_X6_hasMotion_16 ls st M) : J 16 ls st M := R.2.1 ls st M h
theorem R_X6_hasMotion_17 {J : JT} {Q : QT} (R : R_X6_hasMotion J Q) {ls : Ls} {st : St} {M : Mem} (h : wpl J Q b_X6_hasMotion_17 ls st M) : J 17 ls st M := R.2.2 ls st M h
def b_X6_allPersons_0 : List AT := [tx_ic 1, tx_al 0, tx_gi 6 0, tx_bin shlI, tx_ic 1, tx_bin f_sub, tx_ri]
def R_X6_allPersons (J : JT) (Q : QT) : Prop := (∀ ls st M, wpl J Q b_X6_allPersons_0 ls st M → J 0 ls st M)
theorem R_X6_allPersons_0 {J : JT} {Q : QT} (R : R_X6_allPersons J Q) {ls : Ls} {st : St} {M : Mem} (h : wpl J Q b_X6_allPersons_0 ls st M) : J 0 ls st M := R ls st M h
def b_X6_allThings_0 : List AT := [tx_ic 1, tx_al 0, tx_gi 6 3, tx_bin shlI, tx_ic 1, tx_bin f_sub, tx_ri]
def R_X6_allThings (J : JT) (Q : QT) : Prop := (∀ ls st M, wpl J Q b_X6_allThings_0 ls st M → J 0 ls st M)
theorem R_X6_allThings_0 {J : JT} {Q : QT} (R : R_X6_allThings J Q) {ls : Ls} {st : St} {M : Mem} (h : wpl J Q b_X6_allThings_0 ls st M) : J 0 ls st M := R ls st M h
def b_X6_hasPersons_0 : List AT := [tx_il 1, tx_ifz r_lt 16, tx_il 1, tx_al 0, tx_callv 6 (nf G_X6_allPersons) 0, tx_cmp r_gt 16, tx_ic 1, tx_fall 17]
def b_X6_hasPersons_16 : List AT := [tx_ic 0, tx_fall 17]
def b_X6_hasPersons_17 : List AT := [tx_rz]
def R_X6_hasPersons (J : JT) (Q : QT) : Prop := (∀ ls st M, wpl J Q b_X6_hasPersons_0 ls st M → J 0 ls st M) ∧ (∀ ls st M, wpl J Q b_X6_hasPersons_16 ls st M → J 16 ls st M) ∧ (∀ ls st M, wpl J Q b_X6_hasPersons_17 ls st M → J 17 ls st M)
theorem R_X6_hasPersons_0 {J : JT} {Q : QT} (R : R_X6_hasPersons J Q) {ls : Ls} {st : St} {M : Mem} (h : wpl J Q b_X6_hasPersons_0 ls st M) : J 0 ls st M := R.1 ls st M h
theorem R_X6_hasPersons_16 {J : JT} {Q : QT} (R : R_X6_hasPersons J Q) {ls : Ls} {st : St} {M : Mem} (h : wpl J Q b_X6_hasPersons_16 ls st M) : J 16 ls st M := R.2.1 ls st M h
theorem R_X6_hasPersons_17 {J : JT} {Q : QT} (R : R_X6_hasPersons J Q) {ls : Ls} {st : St} {M : Mem} (h : wpl J Q b_X6_hasPersons_17 ls st M) : J 17 ls st M := R.2.2 ls st M h
def b_X6_ownPounds_0 : List AT := [tx_ic 0, tx_is 2, tx_ic 0, tx_is 3, tx_fall 4]
def b_X6_ownPounds_4 : List AT := [tx_il 3, tx_al 0, tx_gi 6 3, tx_cmp r_ge 37, tx_al 0, tx_gr 6 3, tx_il 3, tx_ia, tx_il 1, tx_cmp r_ne 31, tx_il 2, tx_al 0, tx_gr 6 4, tx_il 3, tx_ia, tx_bin f_add, tx_is 2, tx_fall 31]
def b_X6_ownPounds_31 : List AT := [tx_inc 3 1, tx_fall 4]
def b_X6_ownPounds_37 : List AT := [tx_il 2, tx_ri]
def R_X6_ownPounds (J : JT) (Q : QT) : Prop := (∀ ls st M, wpl J Q b_X6_ownPounds_0 ls st M → J 0 ls st M) ∧ (∀ ls st M, wpl J Q b_X6_ownPounds_4 ls st M → J 4 ls st M) ∧ (∀ ls st M, wpl J Q b_X6_ownPounds_31 ls st M → J 31 ls st M) ∧ (∀ ls st M, wpl J Q b_X6_ownPounds_37 ls st M → J 37 ls st M)
theorem R_X6_ownPounds_0 {J : JT} {Q : QT} (R : R_X6_ownPounds J Q) {ls : Ls} {st : St} {M : Mem} (h : wpl J Q b_X6_ownPounds_0 ls st M) : J 0 ls st M := R.1 ls st M h
theorem R_X6_ownPounds_4 {J : JT} {Q : QT} (R : R_X6_ownPounds J Q) {ls : Ls} {st : St} {M : Mem} (h : wpl J Q b_X6_ownPounds_4 ls st M) : J 4 ls st M := R.2.1 ls st M h
theorem R_X6_ownPounds_31 {J : JT} {Q : QT} (R : R_X6_ownPounds J Q) {ls : Ls} {st : St} {M : Mem} (h : wpl J Q b_X6_ownPounds_31 ls st M) : J 31 ls st M := R.2.2.1 ls st M h
theorem R_X6_ownPounds_37 {J : JT} {Q : QT} (R : R_X6_ownPounds J Q) {ls : Ls} {st : St} {M : Mem} (h : wpl J Q b_X6_ownPounds_37 ls st M) : J 37 ls st M := R.2.2.2 ls st M h
def b_X6_allPounds_0 : List AT := [tx_ic 0, tx_is 1, tx_ic 0, tx_is 2, tx_fall 4]
def b_X6_allPounds_4 : List AT := [tx_il 2, tx_al 0, tx_gi 6 3, tx_cmp r_ge 27, tx_il 1, tx_al 0, tx_gr 6 4, tx_il 2, tx_ia, tx_bin f_add, tx_is 1, tx_inc 2 1, tx_fall 4]
def b_X6_allPounds_27 : List AT := [tx_il 1, tx_ri]
def R_X6_allPounds (J : JT) (Q : QT) : Prop := (∀ ls st M, wpl J Q b_X6_allPounds_0 ls st M → J 0 ls st M) ∧ (∀ ls st M, wpl J Q b_X6_allPounds_4 ls st M → J 4 ls st M) ∧ (∀ ls st M, wpl J Q b_X6_allPounds_27 ls st M → J 27 ls st M)
theorem R_X6_allPounds_0 {J : JT} {Q : QT} (R : R_X6_allPounds J Q) {ls : Ls} {st : St} {M : Mem} (h : wpl J Q b_X6_allPounds_0 ls st M) : J 0 ls st M := R.1 ls st M h
theorem R_X6_allPounds_4 {J : JT} {Q : QT} (R : R_X6_allPounds J Q) {ls : Ls} {st : St} {M : Mem} (h : wpl J Q b_X6_allPounds_4 ls st M) : J 4 ls st M := R.2.1 ls st M h
theorem R_X6_allPounds_27 {J : JT} {Q : QT} (R : R_X6_allPounds J Q) {ls : Ls} {st : St} {M : Mem} (h : wpl J Q b_X6_allPounds_27 ls st M) : J 27 ls st M := R.2.2 ls st M h
def b_X6_passage_0 : List AT := [tx_al 0, tx_gr 6 5, tx_il 1, tx_ia, tx_is 2, tx_il 2, tx_ifz r_lt 19, tx_il 2, tx_al 0, tx_gi 6 8, tx_cmp r_lt 21, tx_fall 19]
def b_X6_passage_19 : List AT := [tx_ic 0, tx_ri]
def b_X6_passage_21 : List AT := [tx_al 0, tx_gr 6 4, tx_il 1, tx_ia, tx_al 0, tx_gr 6 7, tx_il 2, tx_ia, tx_bin f_add, tx_ic 1, tx_bin f_sub, tx_al 0, tx_gr 6 7, tx_il 2, tx_ia, tx_call (nf G_X10_cut) 2, tx_ri]
def R_X6_passage (J : JT) (Q : QT) : Prop := (∀ ls st M, wpl J Q b_X6_passage_0 ls st M → J 0 ls st M) ∧ (∀ ls st M, wpl J Q b_X6_passage_19 ls st M → J 19 ls st M) ∧ (∀ ls st M, wpl J Q b_X6_passage_21 ls st M → J 21 ls st M)
theorem R_X6_passage_0 {J : JT} {Q : QT} (R : R_X6_passage J Q) {ls : Ls} {st : St} {M : Mem} (h : wpl J Q b_X6_passage_0 ls st M) : J 0 ls st M := R.1 ls st M h
theorem R_X6_passage_19 {J : JT} {Q : QT} (R : R_X6_passage J Q) {ls : Ls} {st : St} {M : Mem} (h : wpl J Q b_X6_passage_19 ls st M) : J 19 ls st M := R.2.1 ls st M h
theorem R_X6_passage_21 {J : JT} {Q : QT} (R : R_X6_passage J Q) {ls : Ls} {st : St} {M : Mem} (h : wpl J Q b_X6_passage_21 ls st M) : J 21 ls st M := R.2.2 ls st M h
def b_X6_findThrough_0 : List AT := [tx_ic 0, tx_is 4, tx_fall 3]
def b_X6_findThrough_3 : List AT := [tx_il 4, tx_al 3, tx_len, tx_cmp r_ge 21, tx_al 3, tx_il 4, tx_ic 0, tx_iax, tx_inc 4 1, tx_fall 3]
def b_X6_findThrough_21 : List AT := [tx_ic 0, tx_is 4, tx_fall 24]
def b_X6_findThrough_24 : List AT := [tx_il 4, tx_al 0, tx_gi 6 3, tx_cmp r_ge 123, tx_il 4, tx_al 1, tx_len, tx_cmp r_ge 123, tx_al 0, tx_gr 6 5, tx_il 4, tx_ia, tx_is 5, tx_il 4, tx_il 2, tx_cmp r_ne 64, tx_al 1, tx_il 4, tx_ic 1000000, tx_iax, tx_fall 117]
def b_X6_findThrough_64 : List AT := [tx_il 5, tx_ifz r_lt 76, tx_il 5, tx_al 3, tx_len, tx_cmp r_lt 84, tx_fall 76]
def b_X6_findThrough_76 : List AT := [tx_al 1, tx_il 4, tx_ic 0, tx_iax, tx_fall 117]
def b_X6_findThrough_84 : List AT := [tx_al 1, tx_il 4, tx_al 0, tx_gr 6 6, tx_il 4, tx_ia, tx_al 3, tx_il 5, tx_ia, tx_call (nf G_J9_max_7cf53) 2, tx_al 0, tx_il 4, tx_callv 6 (nf G_X6_passage) 1, tx_bin f_add, tx_iax, tx_al 3, tx_il 5, tx_al 1, tx_il 4, tx_ia, tx_iax, tx_fall 117]
def b_X6_findThrough_117 : List AT := [tx_inc 4 1, tx_fall 24]
def b_X6_findThrough_123 : List AT := [tx_rv]
def R_X6_findThrough (J : JT) (Q : QT) : Prop := (∀ ls st M, wpl J Q b_X6_findThrough_0 ls st M → J 0 ls st M) ∧ (∀ ls st M, wpl J Q b_X6_findThrough_3 ls st M → J 3 ls st M) ∧ (∀ ls st M, wpl J Q b_X6_findThrough_21 ls st M → J 21 ls st M) ∧ (∀ ls st M, wpl J Q b_X6_findThrough_24 ls st M → J 24 ls st M) ∧ (∀ ls st M, wpl J Q b_X6_findThrough_64 ls st M → J 64 ls st M) ∧ (∀ ls st M, wpl J Q b_X6_findThrough_76 ls st M → J 76 ls st M) ∧ (∀ ls st M, wpl J Q b_X6_findThrough_84 ls st M → J 84 ls st M) ∧ (∀ ls st M, wpl J Q b_X6_findThrough_117 ls st M → J 117 ls st M) ∧ (∀ ls st M, wpl J Q b_X6_findThrough_123 ls st M → J 123 ls st M)
theorem R_X6_findThrough_0 {J : JT} {Q : QT} (R : R_X6_findThrough J Q) {ls : Ls} {st : St} {M : Mem} (h : wpl J Q b_X6_findThrough_0 ls st M) : J 0 ls st M := R.1 ls st M h
theorem R_X6_findThrough_3 {J : JT} {Q : QT} (R : R_X6_findThrough J Q) {ls : Ls} {st : St} {M : Mem} (h : wpl J Q b_X6_findThrough_3 ls st M) : J 3 ls st M := R.2.1 ls st M h
theorem R_X6_findThrough_21 {J : JT} {Q : QT} (R : R_X6_findThrough J Q) {ls : Ls} {st : St} {M : Mem} (h : wpl J Q b_X6_findThrough_21 ls st M) : J 21 ls st M := R.2.2.1 ls st M h
theorem R_X6_findThrough_24 {J : JT} {Q : QT} (R : R_X6_findThrough J Q) {ls : Ls} {st : St} {M : Mem} (h : wpl J Q b_X6_findThrough_24 ls st M) : J 24 ls st M := R.2.2.2.1 ls st M h
theorem R_X6_findThrough_64 {J : JT} {Q : QT} (R : R_X6_findThrough J Q) {ls : Ls} {st : St} {M : Mem} (h : wpl J Q b_X6_findThrough_64 ls st M) : J 64 ls st M := R.2.2.2.2.1 ls st M h
theorem R_X6_findThrough_76 {J : JT} {Q : QT} (R : R_X6_findThrough J Q) {ls : Ls} {st : St} {M : Mem} (h : wpl J Q b_X6_findThrough_76 ls st M) : J 76 ls st M := R.2.2.2.2.2.1 ls st M h
theorem R_X6_findThrough_84 {J : JT} {Q : QT} (R : R_X6_findThrough J Q) {ls : Ls} {st : St} {M : Mem} (h : wpl J Q b_X6_findThrough_84 ls st M) : J 84 ls st M := R.2.2.2.2.2.2.1 ls st M h
theorem R_X6_findThrough_117 {J : JT} {Q : QT} (R : R_X6_findThrough J Q) {ls : Ls} {st : St} {M : Mem} (h : wpl J Q b_X6_findThrough_117 ls st M) : J 117 ls st M := R.2.2.2.2.2.2.2.1 ls st M h
theorem R_X6_findThrough_123 {J : JT} {Q : QT} (R : R_X6_findThrough J Q) {ls : Ls} {st : St} {M : Mem} (h : wpl J Q b_X6_findThrough_123 ls st M) : J 123 ls st M := R.2.2.2.2.2.2.2.2 ls st M h
theorem P_X6_hasPerson {J : JT} {Q : QT} (R : R_X6_hasPerson J Q) {as : List Vl} {M : Mem} (h : nf G_X6_hasPerson as M Q) : (enL as).length ≤ 2 ∧ J 0 (padL 2 (enL as)) [] M := by
  unfold nf G_X6_hasPerson at h
  split at h
  · rename_i k x
    obtain ⟨Ab, ⟨hk, hp, -⟩, h⟩ := h
    have no : ¬ (0 ≤ x ∧ x < Ab 10 1) → J 16 [some (vR k), some (vI x)] [] M := fun q => R_X6_hasPerson_16 R (R_X6_hasPerson_17 R (an (Or.inl rfl) (h.2 q)))
    refine ⟨Nat.le_of_ble_eq_true rfl, R_X6_hasPerson_0 R (br (fun q => no (fun z => absurd q (show ¬ x < 0 by omega))) (fun q => an (pl_ob hk) (br (fun q2 => no (fun z => absurd q2 (show ¬ M k 0 ≤ x by rw [hp.1]; omega))) (fun q2 => R_X6_hasPerson_17 R (an (Or.inr rfl) (h.1 ?_))))))⟩
    have q : ¬ x < 0 := q
    have q2 : ¬ M k 0 ≤ x := q2
    rw [hp.1] at q2
    omega
  · exact h.elim
theorem P_X6_hasThing {J : JT} {Q : QT} (R : R_X6_hasThing J Q) {as : List Vl} {M : Mem} (h : nf G_X6_hasThing as M Q) : (enL as).length ≤ 2 ∧ J 0 (padL 2 (enL as)) [] M := by
  unfold nf G_X6_hasThing at h
  split at h
  · rename_i k x
    obtain ⟨Ab, ⟨hk, hp, -⟩, h⟩ := h
    have no : ¬ (0 ≤ x ∧ x < Ab 10 2) → J 16 [some (vR k), some (vI x)] [] M := fun q => R_X6_hasThing_16 R (R_X6_hasThing_17 R (an (Or.inl rfl) (h.2 q)))
    refine ⟨Nat.le_of_ble_eq_true rfl, R_X6_hasThing_0 R (br (fun q => no (fun z => absurd q (show ¬ x < 0 by omega))) (fun q => an (pl_ob hk) (br (fun q2 => no (fun z => absurd q2 (show ¬ M k 3 ≤ x by rw [hp.2.1]; omega))) (fun q2 => R_X6_hasThing_17 R (an (Or.inr rfl) (h.1 ?_))))))⟩
    have q : ¬ x < 0 := q
    have q2 : ¬ M k 3 ≤ x := q2
    rw [hp.2.1] at q2
    omega
  · exact h.elim
theorem P_X6_hasMotion {J : JT} {Q : QT} (R : R_X6_hasMotion J Q) {as : List Vl} {M : Mem} (h : nf G_X6_hasMotion as M Q) : (enL as).length ≤ 2 ∧ J 0 (padL 2 (enL as)) [] M := by
  unfold nf G_X6_hasMotion at h
  split at h
  · rename_i k x
    obtain ⟨Ab, ⟨hk, hp, -⟩, h⟩ := h
    have no : ¬ (0 ≤ x ∧ x < Ab 10 4) → J 16 [some (vR k), some (vI x)] [] M := fun q => R_X6_hasMotion_16 R (R_X6_hasMotion_17 R (an (Or.inl rfl) (h.2 q)))
    refine ⟨Nat.le_of_ble_eq_true rfl, R_X6_hasMotion_0 R (br (fun q => no (fun z => absurd q (show ¬ x < 0 by omega))) (fun q => an (pl_ob hk) (br (fun q2 => no (fun z => absurd q2 (show ¬ M k 10 ≤ x by rw [hp.2.2.2.1]; omega))) (fun q2 => R_X6_hasMotion_17 R (an (Or.inr rfl) (h.1 ?_))))))⟩
    have q : ¬ x < 0 := q
    have q2 : ¬ M k 10 ≤ x := q2
    rw [hp.2.2.2.1] at q2
    omega
  · exact h.elim
theorem two_sub {n : Nat} (h : n ≤ 20) : f_sub (shlI 1 ((n : Nat) : Int)) 1 = ((2 ^ n : Nat) : Int) - 1 := by
  have h1 : 2 ^ n ≤ 2 ^ 20 := Nat.pow_le_pow_right (by decide) h
  have h2 : 0 < 2 ^ n := Nat.pow_pos (by decide)
  rw [shl1 n (by omega)]
  unfold f_sub
  exact w1 (by omega) (by omega) rfl
theorem P_X6_allPersons {J : JT} {Q : QT} (R : R_X6_allPersons J Q) {as : List Vl} {M : Mem} (h : nf G_X6_allPersons as M Q) : (enL as).length ≤ 1 ∧ J 0 (padL 1 (enL as)) [] M := by
  unfold nf G_X6_allPersons at h
  split at h
  · rename_i k
    obtain ⟨⟨hk, h0, h1⟩, h⟩ := h
    have e := two_sub (n := (M k 0).toNat) (by omega)
    rw [show (((M k 0).toNat : Nat) : Int) = M k 0 by omega] at e
    rw [← e] at h
    exact ⟨Nat.le_of_ble_eq_true rfl, R_X6_allPersons_0 R (an (pl_ob hk) h)⟩
  · exact h.elim
theorem P_X6_allThings {J : JT} {Q : QT} (R : R_X6_allThings J Q) {as : List Vl} {M : Mem} (h : nf G_X6_allThings as M Q) : (enL as).length ≤ 1 ∧ J 0 (padL 1 (enL as)) [] M := by
  unfold nf G_X6_allThings at h
  split at h
  · rename_i k
    obtain ⟨Ab, ⟨hk, hp, ho⟩, h⟩ := h
    have e := two_sub (n := nT Ab) (by have := ho.2.1; unfold nT; omega)
    rw [show ((nT Ab : Nat) : Int) = M k 3 by have := ho.2.1; rw [hp.2.1]; unfold nT; omega] at e
    rw [← e] at h
    exact ⟨Nat.le_of_ble_eq_true rfl, R_X6_allThings_0 R (an (pl_ob hk) h)⟩
  · exact h.elim
theorem P_X6_hasPersons {J : JT} {Q : QT} (R : R_X6_hasPersons J Q) {as : List Vl} {M : Mem} (h : nf G_X6_hasPersons as M Q) : (enL as).length ≤ 2 ∧ J 0 (padL 2 (enL as)) [] M := by
  unfold nf G_X6_hasPersons at h
  split at h
  · rename_i k x
    obtain ⟨Ab, ⟨hk, hp, ho⟩, h⟩ := h
    have h10 := ho.1
    have e : (M k 0).toNat = nP Ab := by rw [hp.1]; rfl
    have no : ¬ (0 ≤ x ∧ x < ((2 ^ nP Ab : Nat) : Int)) → J 16 [some (vR k), some (vI x)] [] M := fun q => R_X6_hasPersons_16 R (R_X6_hasPersons_17 R (an (Or.inl rfl) (h.2 q)))
    refine ⟨Nat.le_of_ble_eq_true rfl, R_X6_hasPersons_0 R (br (fun q => no (fun z => absurd q (show ¬ x < 0 by omega))) (fun q => an (pl_ob hk) (an ⟨hk, by rw [hp.1]; omega, by rw [hp.1]; omega⟩ (br (fun q2 => no (fun z => absurd q2 (show ¬ ((2 ^ (M k 0).toNat : Nat) : Int) - 1 < x by rw [e]; omega))) (fun q2 => R_X6_hasPersons_17 R (an (Or.inr rfl) (h.1 ?_)))))))⟩
    have q : ¬ x < 0 := q
    have q2 : ¬ ((2 ^ (M k 0).toNat : Nat) : Int) - 1 < x := q2
    rw [e] at q2
    omega
  · exact h.elim
theorem wt_bd {Ab : Mem} (ho : HallOK Ab) {c : Nat → Prop} [DecidablePred c] {n : Nat} (hn : n ≤ nT Ab) : 0 ≤ sumN (fun t => if c t then Ab 1 t else 0) n ∧ sumN (fun t => if c t then Ab 1 t else 0) n ≤ 1386 := by
  have h14 : nT Ab ≤ 14 := by have := ho.2.1; unfold nT; omega
  have h := sumN_bd (f := fun t => if c t then Ab 1 t else 0) (c := 99) (by omega) (n := n) (fun i hi => by
    have := (ho.2.2.2.2.2.2.1 i (by omega)).2.1
    show 0 ≤ (if c i then Ab 1 i else 0) ∧ (if c i then Ab 1 i else 0) ≤ 99
    split <;> omega)
  omega
theorem nT_le {Ab : Mem} (ho : HallOK Ab) : nT Ab ≤ 14 ∧ ((nT Ab : Nat) : Int) = Ab 10 2 := by have := ho.2.1; unfold nT; omega
theorem nP_le {Ab : Mem} (ho : HallOK Ab) : nP Ab ≤ 10 ∧ ((nP Ab : Nat) : Int) = Ab 10 1 := by have := ho.1; unfold nP; omega
theorem nM_le {Ab : Mem} (ho : HallOK Ab) : nM Ab ≤ 8 ∧ ((nM Ab : Nat) : Int) = Ab 10 4 := by have := ho.2.2.2.1; unfold nM; omega
theorem nD_le {Ab : Mem} (ho : HallOK Ab) : nD Ab ≤ 3 ∧ ((nD Ab : Nat) : Int) = Ab 10 3 := by have := ho.2.2.1; unfold nD; omega
theorem P_X6_ownPounds {J : JT} {Q : QT} (R : R_X6_ownPounds J Q) {as : List Vl} {M : Mem} (h : nf G_X6_ownPounds as M Q) : (enL as).length ≤ 4 ∧ J 0 (padL 4 (enL as)) [] M := by
  unfold nf G_X6_ownPounds at h
  split at h
  · rename_i k p
    obtain ⟨Ab, ⟨hk, hp, ho⟩, hQ⟩ := h
    obtain ⟨n1, n2⟩ := nT_le ho
    have key : ∀ i, i ≤ nT Ab → ∀ x acc : Int, x = (i : Int) → acc = sumN (fun t => if Ab 0 t = p then Ab 1 t else 0) i → J 4 [some (vR k), some (vI p), some (vI acc), some (vI x)] [] M := by
      refine dn ?_ ?_
      · intro x acc hx ha
        rw [ha]
        exact R_X6_ownPounds_4 R (an (pl_ob hk) (bt (show M k 3 ≤ x by rw [hp.2.1]; omega) (R_X6_ownPounds_37 R hQ)))
      · intro i hi ih x acc hx ha
        obtain ⟨e1, e2, -, -⟩ := hp.2.2.2.2.2.2.1 i hi
        have bd := wt_bd ho (c := fun t => Ab 0 t = p) (n := i + 1) (by omega)
        rw [hx]
        refine R_X6_ownPounds_4 R (an (pl_ob hk) (bf (show ¬ M k 3 ≤ (i : Int) by rw [hp.2.1]; omega) (an (pl_ob hk) (an (ak_of (pl_3 hk) (by omega) (by omega)) (br (fun q => ?_) (fun q => an (pl_ob hk) (an (ak_of (pl_4 hk) (by omega) (by omega)) ?_)))))))
        · have q : ¬ M (k + 3) i = p := q
          rw [e1] at q
          exact R_X6_ownPounds_31 R (ih _ _ (wn rfl (by omega)) (by rw [sumN, if_neg q, ha]; omega))
        · have q : M (k + 3) i = p := Classical.not_not.mp q
          rw [e1] at q
          refine R_X6_ownPounds_31 R (ih _ _ (wn rfl (by omega)) ?_)
          rw [sumN, if_pos q] at bd ⊢
          show w32 (acc + M (k + 4) i) = _
          rw [e2, ha]
          exact w1 (by omega) (by omega) rfl
    exact ⟨Nat.le_of_ble_eq_true rfl, R_X6_ownPounds_0 R (key 0 (Nat.zero_le _) _ _ rfl rfl)⟩
  · exact h.elim
theorem P_X6_allPounds {J : JT} {Q : QT} (R : R_X6_allPounds J Q) {as : List Vl} {M : Mem} (h : nf G_X6_allPounds as M Q) : (enL as).length ≤ 3 ∧ J 0 (padL 3 (enL as)) [] M := by
  unfold nf G_X6_allPounds at h
  split at h
  · rename_i k
    obtain ⟨Ab, ⟨hk, hp, ho⟩, hQ⟩ := h
    obtain ⟨n1, n2⟩ := nT_le ho
    have key : ∀ i, i ≤ nT Ab → ∀ x acc : Int, x = (i : Int) → acc = sumN (fun t => Ab 1 t) i → J 4 [some (vR k), some (vI acc), some (vI x)] [] M := by
      refine dn ?_ ?_
      · intro x acc hx ha
        rw [ha]
        exact R_X6_allPounds_4 R (an (pl_ob hk) (bt (show M k 3 ≤ x by rw [hp.2.1]; omega) (R_X6_allPounds_27 R hQ)))
      · intro i hi ih x acc hx ha
        obtain ⟨e1, e2, -, -⟩ := hp.2.2.2.2.2.2.1 i hi
        have bd := wt_bd ho (c := fun t => True) (n := i + 1) (by omega)
        simp only [if_true] at bd
        rw [hx]
        refine R_X6_allPounds_4 R (an (pl_ob hk) (bf (show ¬ M k 3 ≤ (i : Int) by rw [hp.2.1]; omega) (an (pl_ob hk) (an (ak_of (pl_4 hk) (by omega) (by omega)) (ih _ _ (wn rfl (by omega)) ?_)))))
        rw [sumN] at bd ⊢
        show w32 (acc + M (k + 4) i) = _
        rw [e2, ha]
        exact w1 (by omega) (by omega) rfl
    exact ⟨Nat.le_of_ble_eq_true rfl, R_X6_allPounds_0 R (key 0 (Nat.zero_le _) _ _ rfl rfl)⟩
  · exact h.elim
theorem pass_bd {Ab : Mem} (ho : HallOK Ab) {t : Nat} (ht : t < nT Ab) : 0 ≤ passF Ab t ∧ passF Ab t ≤ 99 := by
  have h1 := ho.2.2.2.2.2.2.1 t ht
  unfold passF
  split
  · omega
  · rename_i hd
    have h2 := ho.2.2.2.2.2.2.2.1 (Ab 2 t).toNat (by unfold nD; omega)
    generalize Ab 6 (Ab 2 t).toNat = c at h2 ⊢
    generalize Ab 1 t = w at h1 ⊢
    have h3 : 0 ≤ (w + c - 1) / c := Int.ediv_nonneg (by omega) (by omega)
    have h4 : (w + c - 1) / c ≤ w := by
      apply Int.ediv_le_of_le_mul (by omega)
      have : w * 1 ≤ w * c := Int.mul_le_mul_of_nonneg_left (by omega) (by omega)
      have h5 : (w - 1) * (c - 1) = w * c - w - c + 1 := by rw [Int.sub_mul, Int.mul_sub]; omega
      have h6 : 0 ≤ (w - 1) * (c - 1) := Int.mul_nonneg (by omega) (by omega)
      omega
    omega
theorem P_X6_passage {J : JT} {Q : QT} (R : R_X6_passage J Q) {as : List Vl} {M : Mem} (h : nf G_X6_passage as M Q) : (enL as).length ≤ 3 ∧ J 0 (padL 3 (enL as)) [] M := by
  unfold nf G_X6_passage at h
  split at h
  · rename_i k t
    obtain ⟨Ab, ⟨hk, hp, ho⟩, ⟨t0, t1⟩, hQ⟩ := h
    have ht : t.toNat < nT Ab := by unfold nT; omega
    obtain ⟨n1, n2⟩ := nT_le ho
    obtain ⟨e1, e2, e3, e4⟩ := hp.2.2.2.2.2.2.1 _ ht
    have h1 := ho.2.2.2.2.2.2.1 _ ht
    refine ⟨Nat.le_of_ble_eq_true rfl, R_X6_passage_0 R (an (pl_ob hk) (an (ak_of (pl_5 hk) t0 (by omega)) (br (fun q => ?_) (fun q => ?_))))⟩
    · have q : M (k + 5) t.toNat < 0 := q
      rw [e3] at q
      refine R_X6_passage_19 R ?_
      unfold passF at hQ
      rw [if_pos q] at hQ
      exact hQ
    · have q : ¬ M (k + 5) t.toNat < 0 := q
      rw [e3] at q
      have h2 := ho.2.2.2.2.2.2.2.1 (Ab 2 t.toNat).toNat (by unfold nD; omega)
      have e5 := hp.2.2.2.2.2.2.2.1 (Ab 2 t.toNat).toNat (by unfold nD; omega)
      obtain ⟨d1, d2⟩ := nD_le ho
      have a7 : AK 1 (k + 7) (M (k + 5) t.toNat) := ak_of (pl_7 hk) (by rw [e3]; omega) (by rw [e3]; omega)
      refine an (pl_ob hk) (bt (show M (k + 5) t.toNat < M k 8 by rw [e3, hp.2.2.1]; omega) (R_X6_passage_21 R (an (pl_ob hk) (an (ak_of (pl_4 hk) t0 (by omega)) (an (pl_ob hk) (an a7 (an (pl_ob hk) (an a7 ?_))))))))
      have ew : f_sub (f_add (M (k + 4) t.toNat) (M (k + 7) (M (k + 5) t.toNat).toNat)) 1 = Ab 1 t.toNat + Ab 6 (Ab 2 t.toNat).toNat - 1 := by
        rw [e3, e2, e5]
        unfold f_add f_sub
        rw [w1 (y := Ab 1 t.toNat + Ab 6 (Ab 2 t.toNat).toNat) (by omega) (by omega) rfl]
        exact w1 (by omega) (by omega) rfl
      show (0 < M (k + 7) (M (k + 5) t.toNat).toNat ∧ 0 ≤ f_sub (f_add (M (k + 4) t.toNat) (M (k + 7) (M (k + 5) t.toNat).toNat)) 1 ∧ f_sub (f_add (M (k + 4) t.toNat) (M (k + 7) (M (k + 5) t.toNat).toNat)) 1 < 2147483648) ∧ Q (.inl (some (vI (f_sub (f_add (M (k + 4) t.toNat) (M (k + 7) (M (k + 5) t.toNat).toNat)) 1 / M (k + 7) (M (k + 5) t.toNat).toNat)))) M
      rw [ew]
      rw [e3, e5]
      refine ⟨⟨by omega, by omega, by omega⟩, ?_⟩
      unfold passF at hQ
      rw [if_neg q] at hQ
      exact hQ

  · exact h.elim