def G_X11_person : FN := fun as M Q => match as with
  | [.inr (.inl k), .inl p, .inl w] => k = 159 ∧ mS cd2 (an_person p w) M Q
  | _ => False
def G_X11_thing : FN := fun as M Q => match as with
  | [.inr (.inl k), .inl t, .inl w] => k = 159 ∧ mS cd2 (an_thing t w) M Q
  | _ => False
def G_X11_told : FN := fun as M Q => match as with
  | [.inr (.inl k), .inl w] => k = 159 ∧ mS cd1 (an_told w) M Q
  | _ => False
def G_X11_holds : FN := fun as M Q => match as with
  | [.inr (.inl k), .inl t, .inl m] => k = 159 ∧ mS cd2 (an_holds t m) M Q
  | _ => False
def G_X11_pounds : FN := fun as M Q => match as with
  | [.inr (.inl k), .inl p, .inl m, .inl w] => k = 159 ∧ mS cd2 (an_pounds p m w) M Q
  | _ => False
def G_X11_spent : FN := fun as M Q => match as with
  | [.inr (.inl k), .inl p] => k = 159 ∧ mS cd1 (an_spent p) M Q
  | _ => False
def b_X11_person_0 : List AT := [tx_al 0, tx_ic 0, tx_pi 11 0, tx_al 0, tx_al 0, tx_il 1, tx_callv 11 (nf G_X11_isPerson) 1, tx_ifz r_ne 18, tx_ic 1, tx_fall 19]
def b_X11_person_18 : List AT := [tx_ic 0, tx_fall 19]
def b_X11_person_19 : List AT := [tx_ic 1, tx_ic 0, tx_callv 11 (nf G_X11_bad) 3, tx_ifz r_ne 50, tx_al 0, tx_il 2, tx_ic 0, tx_ic 2, tx_call (nf G_X11_in) 3, tx_ifz r_ne 41, tx_ic 1, tx_fall 42]
def b_X11_person_41 : List AT := [tx_ic 0, tx_fall 42]
def b_X11_person_42 : List AT := [tx_ic 2, tx_ic 1, tx_callv 11 (nf G_X11_bad) 3, tx_ifz r_eq 52, tx_fall 50]
def b_X11_person_50 : List AT := [tx_ic 0, tx_ri]
def b_X11_person_52 : List AT := [tx_il 2, tx_ic 2, tx_cmp r_ge 68, tx_al 0, tx_gr 11 16, tx_il 1, tx_aa 5, tx_il 2, tx_ia, tx_fall 73]
def b_X11_person_68 : List AT := [tx_al 0, tx_il 1, tx_callv 11 (nf G_X11_own) 1, tx_fall 73]
def b_X11_person_73 : List AT := [tx_ri]
def R_X11_person (J : JT) (Q : QT) : Prop := (∀ ls st M, wpl J Q b_X11_person_0 ls st M → J 0 ls st M) ∧ (∀ ls st M, wpl J Q b_X11_person_18 ls st M → J 18 ls st M) ∧ (∀ ls st M, wpl J Q b_X11_person_19 ls st M → J 19 ls st M) ∧ (∀ ls st M, wpl J Q b_X11_person_41 ls st M → J 41 ls st M) ∧ (∀ ls st M, wpl J Q b_X11_person_42 ls st M → J 42 ls st M) ∧ (∀ ls st M, wpl J Q b_X11_person_50 ls st M → J 50 ls st M) ∧ (∀ ls st M, wpl J Q b_X11_person_52 ls st M → J 52 ls st M) ∧ (∀ ls st M, wpl J Q b_X11_person_68 ls st M → J 68 ls st M) ∧ (∀ ls st M, wpl J Q b_X11_person_73 ls st M → J 73 ls st M)
theorem R_X11_person_0 {J : JT} {Q : QT} (R : R_X11_person J Q) {ls : Ls} {st : St} {M : Mem} (h : wpl J Q b_X11_person_0 ls st M) : J 0 ls st M := R.1 ls st M h
theorem R_X11_person_18 {J : JT} {Q : QT} (R : R_X11_person J Q) {ls : Ls} {st : St} {M : Mem} (h : wpl J Q b_X11_person_18 ls st M) : J 18 ls st M := R.2.1 ls st M h
theorem R_X11_person_19 {J : JT} {Q : QT} (R : R_X11_person J Q) {ls : Ls} {st : St} {M : Mem} (h : wpl J Q b_X11_person_19 ls st M) : J 19 ls st M := R.2.2.1 ls st M h
theorem R_X11_person_41 {J : JT} {Q : QT} (R : R_X11_person J Q) {ls : Ls} {st : St} {M : Mem} (h : wpl J Q b_X11_person_41 ls st M) : J 41 ls st M := R.2.2.2.1 ls st M h
theorem R_X11_person_42 {J : JT} {Q : QT} (R : R_X11_person J Q) {ls : Ls} {st : St} {M : Mem} (h : wpl J Q b_X11_person_42 ls st M) : J 42 ls st M := R.2.2.2.2.1 ls st M h
theorem R_X11_person_50 {J : JT} {Q : QT} (R : R_X11_person J Q) {ls : Ls} {st : St} {M : Mem} (h : wpl J Q b_X11_person_50 ls st M) : J 50 ls st M := R.2.2.2.2.2.1 ls st M h
theorem R_X11_person_52 {J : JT} {Q : QT} (R : R_X11_person J Q) {ls : Ls} {st : St} {M : Mem} (h : wpl J Q b_X11_person_52 ls st M) : J 52 ls st M := R.2.2.2.2.2.2.1 ls st M h
theorem R_X11_person_68 {J : JT} {Q : QT} (R : R_X11_person J Q) {ls : Ls} {st : St} {M : Mem} (h : wpl J Q b_X11_person_68 ls st M) : J 68 ls st M := R.2.2.2.2.2.2.2.1 ls st M h
theorem R_X11_person_73 {J : JT} {Q : QT} (R : R_X11_person J Q) {ls : Ls} {st : St} {M : Mem} (h : wpl J Q b_X11_person_73 ls st M) : J 73 ls st M := R.2.2.2.2.2.2.2.2 ls st M h
def b_X11_thing_0 : List AT := [tx_al 0, tx_ic 0, tx_pi 11 0, tx_al 0, tx_al 0, tx_il 1, tx_callv 11 (nf G_X11_isThing) 1, tx_ifz r_ne 18, tx_ic 1, tx_fall 19]
def b_X11_thing_18 : List AT := [tx_ic 0, tx_fall 19]
def b_X11_thing_19 : List AT := [tx_ic 1, tx_ic 0, tx_callv 11 (nf G_X11_bad) 3, tx_ifz r_ne 50, tx_al 0, tx_il 2, tx_ic 0, tx_ic 3, tx_call (nf G_X11_in) 3, tx_ifz r_ne 41, tx_ic 1, tx_fall 42]
def b_X11_thing_41 : List AT := [tx_ic 0, tx_fall 42]
def b_X11_thing_42 : List AT := [tx_ic 2, tx_ic 1, tx_callv 11 (nf G_X11_bad) 3, tx_ifz r_eq 52, tx_fall 50]
def b_X11_thing_50 : List AT := [tx_ic 0, tx_ri]
def b_X11_thing_52 : List AT := [tx_al 0, tx_callv 11 (nf G_X11_laysDoors) 0, tx_il 2, tx_ic 3, tx_cmp r_ge 72, tx_al 0, tx_gr 11 42, tx_il 1, tx_aa 5, tx_il 2, tx_ia, tx_fall 78]
def b_X11_thing_72 : List AT := [tx_al 0, tx_gr 11 135, tx_il 1, tx_ia, tx_fall 78]
def b_X11_thing_78 : List AT := [tx_ri]
def R_X11_thing (J : JT) (Q : QT) : Prop := (∀ ls st M, wpl J Q b_X11_thing_0 ls st M → J 0 ls st M) ∧ (∀ ls st M, wpl J Q b_X11_thing_18 ls st M → J 18 ls st M) ∧ (∀ ls st M, wpl J Q b_X11_thing_19 ls st M → J 19 ls st M) ∧ (∀ ls st M, wpl J Q b_X11_thing_41 ls st M → J 41 ls st M) ∧ (∀ ls st M, wpl J Q b_X11_thing_42 ls st M → J 42 ls st M) ∧ (∀ ls st M, wpl J Q b_X11_thing_50 ls st M → J 50 ls st M) ∧ (∀ ls st M, wpl J Q b_X11_thing_52 ls st M → J 52 ls st M) ∧ (∀ ls st M, wpl J Q b_X11_thing_72 ls st M → J 72 ls st M) ∧ (∀ ls st M, wpl J Q b_X11_thing_78 ls st M → J 78 ls st M)
theorem R_X11_thing_0 {J : JT} {Q : QT} (R : R_X11_thing J Q) {ls : Ls} {st : St} {M : Mem} (h : wpl J Q b_X11_thing_0 ls st M) : J 0 ls st M := R.1 ls st M h
theorem R_X11_thing_18 {J : JT} {Q : QT} (R : R_X11_thing J Q) {ls : Ls} {st : St} {M : Mem} (h : wpl J Q b_X11_thing_18 ls st M) : J 18 ls st M := R.2.1 ls st M h
theorem R_X11_thing_19 {J : JT} {Q : QT} (R : R_X11_thing J Q) {ls : Ls} {st : St} {M : Mem} (h : wpl J Q b_X11_thing_19 ls st M) : J 19 ls st M := R.2.2.1 ls st M h
theorem R_X11_thing_41 {J : JT} {Q : QT} (R : R_X11_thing J Q) {ls : Ls} {st : St} {M : Mem} (h : wpl J Q b_X11_thing_41 ls st M) : J 41 ls st M := R.2.2.2.1 ls st M h
theorem R_X11_thing_42 {J : JT} {Q : QT} (R : R_X11_thing J Q) {ls : Ls} {st : St} {M : Mem} (h : wpl J Q b_X11_thing_42 ls st M) : J 42 ls st M := R.2.2.2.2.1 ls st M h
theorem R_X11_thing_50 {J : JT} {Q : QT} (R : R_X11_thing J Q) {ls : Ls} {st : St} {M : Mem} (h : wpl J Q b_X11_thing_50 ls st M) : J 50 ls st M := R.2.2.2.2.2.1 ls st M h
theorem R_X11_thing_52 {J : JT} {Q : QT} (R : R_X11_thing J Q) {ls : Ls} {st : St} {M : Mem} (h : wpl J Q b_X11_thing_52 ls st M) : J 52 ls st M := R.2.2.2.2.2.2.1 ls st M h
theorem R_X11_thing_72 {J : JT} {Q : QT} (R : R_X11_thing J Q) {ls : Ls} {st : St} {M : Mem} (h : wpl J Q b_X11_thing_72 ls st M) : J 72 ls st M := R.2.2.2.2.2.2.2.1 ls st M h
theorem R_X11_thing_78 {J : JT} {Q : QT} (R : R_X11_thing J Q) {ls : Ls} {st : St} {M : Mem} (h : wpl J Q b_X11_thing_78 ls st M) : J 78 ls st M := R.2.2.2.2.2.2.2.2 ls st M h
def b_X11_told_0 : List AT := [tx_al 0, tx_ic 0, tx_pi 11 0, tx_al 0, tx_il 1, tx_ic 0, tx_ic 5, tx_call (nf G_X11_in) 3, tx_ifz r_ne 19, tx_ic 1, tx_fall 20]
def b_X11_told_19 : List AT := [tx_ic 0, tx_fall 20]
def b_X11_told_20 : List AT := [tx_ic 1, tx_ic 1, tx_callv 11 (nf G_X11_bad) 3, tx_ifz r_eq 30, tx_ic 0, tx_ri]
def b_X11_told_30 : List AT := [tx_il 1, tx_ic 4, tx_cmp r_ge 44, tx_al 0, tx_gr 11 4, tx_il 1, tx_ia, tx_fall 62]
def b_X11_told_44 : List AT := [tx_il 1, tx_ic 4, tx_cmp r_ne 56, tx_al 0, tx_gi 11 22, tx_fall 62]
def b_X11_told_56 : List AT := [tx_al 0, tx_gr 11 4, tx_ic 4, tx_ia, tx_fall 62]
def b_X11_told_62 : List AT := [tx_ri]
def R_X11_told (J : JT) (Q : QT) : Prop := (∀ ls st M, wpl J Q b_X11_told_0 ls st M → J 0 ls st M) ∧ (∀ ls st M, wpl J Q b_X11_told_19 ls st M → J 19 ls st M) ∧ (∀ ls st M, wpl J Q b_X11_told_20 ls st M → J 20 ls st M) ∧ (∀ ls st M, wpl J Q b_X11_told_30 ls st M → J 30 ls st M) ∧ (∀ ls st M, wpl J Q b_X11_told_44 ls st M → J 44 ls st M) ∧ (∀ ls st M, wpl J Q b_X11_told_56 ls st M → J 56 ls st M) ∧ (∀ ls st M, wpl J Q b_X11_told_62 ls st M → J 62 ls st M)
theorem R_X11_told_0 {J : JT} {Q : QT} (R : R_X11_told J Q) {ls : Ls} {st : St} {M : Mem} (h : wpl J Q b_X11_told_0 ls st M) : J 0 ls st M := R.1 ls st M h
theorem R_X11_told_19 {J : JT} {Q : QT} (R : R_X11_told J Q) {ls : Ls} {st : St} {M : Mem} (h : wpl J Q b_X11_told_19 ls st M) : J 19 ls st M := R.2.1 ls st M h
theorem R_X11_told_20 {J : JT} {Q : QT} (R : R_X11_told J Q) {ls : Ls} {st : St} {M : Mem} (h : wpl J Q b_X11_told_20 ls st M) : J 20 ls st M := R.2.2.1 ls st M h
theorem R_X11_told_30 {J : JT} {Q : QT} (R : R_X11_told J Q) {ls : Ls} {st : St} {M : Mem} (h : wpl J Q b_X11_told_30 ls st M) : J 30 ls st M := R.2.2.2.1 ls st M h
theorem R_X11_told_44 {J : JT} {Q : QT} (R : R_X11_told J Q) {ls : Ls} {st : St} {M : Mem} (h : wpl J Q b_X11_told_44 ls st M) : J 44 ls st M := R.2.2.2.2.1 ls st M h
theorem R_X11_told_56 {J : JT} {Q : QT} (R : R_X11_told J Q) {ls : Ls} {st : St} {M : Mem} (h : wpl J Q b_X11_told_56 ls st M) : J 56 ls st M := R.2.2.2.2.2.1 ls st M h
theorem R_X11_told_62 {J : JT} {Q : QT} (R : R_X11_told J Q) {ls : Ls} {st : St} {M : Mem} (h : wpl J Q b_X11_told_62 ls st M) : J 62 ls st M := R.2.2.2.2.2.2 ls st M h
def b_X11_holds_0 : List AT := [tx_al 0, tx_ic 0, tx_pi 11 0, tx_al 0, tx_al 0, tx_il 1, tx_callv 11 (nf G_X11_isThing) 1, tx_ifz r_ne 18, tx_ic 1, tx_fall 19]
def b_X11_holds_18 : List AT := [tx_ic 0, tx_fall 19]
def b_X11_holds_19 : List AT := [tx_ic 1, tx_ic 0, tx_callv 11 (nf G_X11_bad) 3, tx_ifz r_ne 48, tx_al 0, tx_il 2, tx_call (nf G_X11_isMinute) 1, tx_ifz r_ne 39, tx_ic 1, tx_fall 40]
def b_X11_holds_39 : List AT := [tx_ic 0, tx_fall 40]
def b_X11_holds_40 : List AT := [tx_ic 2, tx_ic 1, tx_callv 11 (nf G_X11_bad) 3, tx_ifz r_eq 50, tx_fall 48]
def b_X11_holds_48 : List AT := [tx_ic 0, tx_ri]
def b_X11_holds_50 : List AT := [tx_al 0, tx_ic 1000000, tx_pi 11 36, tx_al 0, tx_il 2, tx_callv 11 (nf G_X11_goes) 1, tx_al 0, tx_gr 11 133, tx_il 1, tx_ia, tx_ri]
def R_X11_holds (J : JT) (Q : QT) : Prop := (∀ ls st M, wpl J Q b_X11_holds_0 ls st M → J 0 ls st M) ∧ (∀ ls st M, wpl J Q b_X11_holds_18 ls st M → J 18 ls st M) ∧ (∀ ls st M, wpl J Q b_X11_holds_19 ls st M → J 19 ls st M) ∧ (∀ ls st M, wpl J Q b_X11_holds_39 ls st M → J 39 ls st M) ∧ (∀ ls st M, wpl J Q b_X11_holds_40 ls st M → J 40 ls st M) ∧ (∀ ls st M, wpl J Q b_X11_holds_48 ls st M → J 48 ls st M) ∧ (∀ ls st M, wpl J Q b_X11_holds_50 ls st M → J 50 ls st M)
theorem R_X11_holds_0 {J : JT} {Q : QT} (R : R_X11_holds J Q) {ls : Ls} {st : St} {M : Mem} (h : wpl J Q b_X11_holds_0 ls st M) : J 0 ls st M := R.1 ls st M h
theorem R_X11_holds_18 {J : JT} {Q : QT} (R : R_X11_holds J Q) {ls : Ls} {st : St} {M : Mem} (h : wpl J Q b_X11_holds_18 ls st M) : J 18 ls st M := R.2.1 ls st M h
theorem R_X11_holds_19 {J : JT} {Q : QT} (R : R_X11_holds J Q) {ls : Ls} {st : St} {M : Mem} (h : wpl J Q b_X11_holds_19 ls st M) : J 19 ls st M := R.2.2.1 ls st M h
theorem R_X11_holds_39 {J : JT} {Q : QT} (R : R_X11_holds J Q) {ls : Ls} {st : St} {M : Mem} (h : wpl J Q b_X11_holds_39 ls st M) : J 39 ls st M := R.2.2.2.1 ls st M h
theorem R_X11_holds_40 {J : JT} {Q : QT} (R : R_X11_holds J Q) {ls : Ls} {st : St} {M : Mem} (h : wpl J Q b_X11_holds_40 ls st M) : J 40 ls st M := R.2.2.2.2.1 ls st M h
theorem R_X11_holds_48 {J : JT} {Q : QT} (R : R_X11_holds J Q) {ls : Ls} {st : St} {M : Mem} (h : wpl J Q b_X11_holds_48 ls st M) : J 48 ls st M := R.2.2.2.2.2.1 ls st M h
theorem R_X11_holds_50 {J : JT} {Q : QT} (R : R_X11_holds J Q) {ls : Ls} {st : St} {M : Mem} (h : wpl J Q b_X11_holds_50 ls st M) : J 50 ls st M := R.2.2.2.2.2.2 ls st M h
def b_X11_pounds_0 : List AT := [tx_al 0, tx_ic 0, tx_pi 11 0, tx_al 0, tx_al 0, tx_il 1, tx_callv 11 (nf G_X11_isPerson) 1, tx_ifz r_ne 18, tx_ic 1, tx_fall 19]
def b_X11_pounds_18 : List AT := [tx_ic 0, tx_fall 19]
def b_X11_pounds_19 : List AT := [tx_ic 1, tx_ic 0, tx_callv 11 (nf G_X11_bad) 3, tx_ifz r_ne 57, tx_al 0, tx_il 2, tx_call (nf G_X11_isMinute) 1, tx_ifz r_eq 44, tx_il 3, tx_ic 0, tx_ic 1, tx_call (nf G_X11_in) 3, tx_ifz r_ne 48, tx_fall 44]
def b_X11_pounds_44 : List AT := [tx_ic 1, tx_fall 49]
def b_X11_pounds_48 : List AT := [tx_ic 0, tx_fall 49]
def b_X11_pounds_49 : List AT := [tx_ic 2, tx_ic 1, tx_callv 11 (nf G_X11_bad) 3, tx_ifz r_eq 59, tx_fall 57]
def b_X11_pounds_57 : List AT := [tx_ic 0, tx_ri]
def b_X11_pounds_59 : List AT := [tx_al 0, tx_ic 1000000, tx_pi 11 36, tx_al 0, tx_il 2, tx_callv 11 (nf G_X11_goes) 1, tx_il 3, tx_ifz r_ne 84, tx_al 0, tx_gr 11 138, tx_il 1, tx_ia, tx_fall 90]
def b_X11_pounds_84 : List AT := [tx_al 0, tx_gr 11 136, tx_il 1, tx_ia, tx_fall 90]
def b_X11_pounds_90 : List AT := [tx_ri]
def R_X11_pounds (J : JT) (Q : QT) : Prop := (∀ ls st M, wpl J Q b_X11_pounds_0 ls st M → J 0 ls st M) ∧ (∀ ls st M, wpl J Q b_X11_pounds_18 ls st M → J 18 ls st M) ∧ (∀ ls st M, wpl J Q b_X11_pounds_19 ls st M → J 19 ls st M) ∧ (∀ ls st M, wpl J Q b_X11_pounds_44 ls st M → J 44 ls st M) ∧ (∀ ls st M, wpl J Q b_X11_pounds_48 ls st M → J 48 ls st M) ∧ (∀ ls st M, wpl J Q b_X11_pounds_49 ls st M → J 49 ls st M) ∧ (∀ ls st M, wpl J Q b_X11_pounds_57 ls st M → J 57 ls st M) ∧ (∀ ls st M, wpl J Q b_X11_pounds_59 ls st M → J 59 ls st M) ∧ (∀ ls st M, wpl J Q b_X11_pounds_84 ls st M → J 84 ls st M) ∧ (∀ ls st M, wpl J Q b_X11_pounds_90 ls st M → J 90 ls st M)
theorem R_X11_pounds_0 {J : JT} {Q : QT} (R : R_X11_pounds J Q) {ls : Ls} {st : St} {M : Mem} (h : wpl J Q b_X11_pounds_0 ls st M) : J 0 ls st M := R.1 ls st M h
theorem R_X11_pounds_18 {J : JT} {Q : QT} (R : R_X11_pounds J Q) {ls : Ls} {st : St} {M : Mem} (h : wpl J Q b_X11_pounds_18 ls st M) : J 18 ls st M := R.2.1 ls st M h
theorem R_X11_pounds_19 {J : JT} {Q : QT} (R : R_X11_pounds J Q) {ls : Ls} {st : St} {M : Mem} (h : wpl J Q b_X11_pounds_19 ls st M) : J 19 ls st M := R.2.2.1 ls st M h
theorem R_X11_pounds_44 {J : JT} {Q : QT} (R : R_X11_pounds J Q) {ls : Ls} {st : St} {M : Mem} (h : wpl J Q b_X11_pounds_44 ls st M) : J 44 ls st M := R.2.2.2.1 ls st M h
theorem R_X11_pounds_48 {J : JT} {Q : QT} (R : R_X11_pounds J Q) {ls : Ls} {st : St} {M : Mem} (h : wpl J Q b_X11_pounds_48 ls st M) : J 48 ls st M := R.2.2.2.2.1 ls st M h
theorem R_X11_pounds_49 {J : JT} {Q : QT} (R : R_X11_pounds J Q) {ls : Ls} {st : St} {M : Mem} (h : wpl J Q b_X11_pounds_49 ls st M) : J 49 ls st M := R.2.2.2.2.2.1 ls st M h
theorem R_X11_pounds_57 {J : JT} {Q : QT} (R : R_X11_pounds J Q) {ls : Ls} {st : St} {M : Mem} (h : wpl J Q b_X11_pounds_57 ls st M) : J 57 ls st M := R.2.2.2.2.2.2.1 ls st M h
theorem R_X11_pounds_59 {J : JT} {Q : QT} (R : R_X11_pounds J Q) {ls : Ls} {st : St} {M : Mem} (h : wpl J Q b_X11_pounds_59 ls st M) : J 59 ls st M := R.2.2.2.2.2.2.2.1 ls st M h
theorem R_X11_pounds_84 {J : JT} {Q : QT} (R : R_X11_pounds J Q) {ls : Ls} {st : St} {M : Mem} (h : wpl J Q b_X11_pounds_84 ls st M) : J 84 ls st M := R.2.2.2.2.2.2.2.2.1 ls st M h
theorem R_X11_pounds_90 {J : JT} {Q : QT} (R : R_X11_pounds J Q) {ls : Ls} {st : St} {M : Mem} (h : wpl J Q b_X11_pounds_90 ls st M) : J 90 ls st M := R.2.2.2.2.2.2.2.2.2 ls st M h
def b_X11_spent_0 : List AT := [tx_al 0, tx_ic 0, tx_pi 11 0, tx_al 0, tx_al 0, tx_il 1, tx_callv 11 (nf G_X11_isPerson) 1, tx_ifz r_ne 18, tx_ic 1, tx_fall 19]
def b_X11_spent_18 : List AT := [tx_ic 0, tx_fall 19]
def b_X11_spent_19 : List AT := [tx_ic 1, tx_ic 0, tx_callv 11 (nf G_X11_bad) 3, tx_ifz r_eq 29, tx_ic 0, tx_ri]
def b_X11_spent_29 : List AT := [tx_al 0, tx_callv 11 (nf G_X11_goesAll) 0, tx_al 0, tx_gr 11 137, tx_il 1, tx_ia, tx_ri]
def R_X11_spent (J : JT) (Q : QT) : Prop := (∀ ls st M, wpl J Q b_X11_spent_0 ls st M → J 0 ls st M) ∧ (∀ ls st M, wpl J Q b_X11_spent_18 ls st M → J 18 ls st M) ∧ (∀ ls st M, wpl J Q b_X11_spent_19 ls st M → J 19 ls st M) ∧ (∀ ls st M, wpl J Q b_X11_spent_29 ls st M → J 29 ls st M)
theorem R_X11_spent_0 {J : JT} {Q : QT} (R : R_X11_spent J Q) {ls : Ls} {st : St} {M : Mem} (h : wpl J Q b_X11_spent_0 ls st M) : J 0 ls st M := R.1 ls st M h
theorem R_X11_spent_18 {J : JT} {Q : QT} (R : R_X11_spent J Q) {ls : Ls} {st : St} {M : Mem} (h : wpl J Q b_X11_spent_18 ls st M) : J 18 ls st M := R.2.1 ls st M h
theorem R_X11_spent_19 {J : JT} {Q : QT} (R : R_X11_spent J Q) {ls : Ls} {st : St} {M : Mem} (h : wpl J Q b_X11_spent_19 ls st M) : J 19 ls st M := R.2.2.1 ls st M h
theorem R_X11_spent_29 {J : JT} {Q : QT} (R : R_X11_spent J Q) {ls : Ls} {st : St} {M : Mem} (h : wpl J Q b_X11_spent_29 ls st M) : J 29 ls st M := R.2.2.2 ls st M h
theorem P_X11_person {J : JT} {Q : QT} (R : R_X11_person J Q) {as : List Vl} {M : Mem} (h : nf G_X11_person as M Q) : (enL as).length ≤ 3 ∧ J 0 (padL 3 (enL as)) [] M := by
  unfold nf G_X11_person at h
  split at h
  · rename_i k p w
    obtain ⟨rfl, s, hM, hQ⟩ := h
    have h1 := hM.t0 0
    have e0 : up M 159 0 0 159 0 = 0 := up_eq
    have mf : MF M (up M 159 0 0) := MF.t0 M 0
    have no1 : ¬ (0 ≤ p ∧ p < s.1 10 1) → an_person p w s = nay s 1 := fun c => if_pos c
    have no2 : (0 ≤ p ∧ p < s.1 10 1) → ¬ (0 ≤ w ∧ w ≤ 2) → an_person p w s = nay s 2 := fun c1 c2 => (if_neg (fun z => z c1)).trans (if_pos c2)
    have body : (0 ≤ p ∧ p < s.1 10 1) → (0 ≤ w ∧ w ≤ 2) → J 52 [some (vR 159), some (vI p), some (vI w)] [] (up M 159 0 0) := by
      intro c1 c2
      have ea : an_person p w s = _ := (if_neg (fun z => z c1)).trans (if_neg (fun z => z c2))
      rw [ea] at hQ
      generalize up M 159 0 0 = M1 at h1 e0 mf
      obtain ⟨g1, -, -, -, -, -, -⟩ := id h1
      have p1 := (nP_le g1.1)
      obtain ⟨q0, q1⟩ := g1.2.2.1 p.toNat (by omega)
      have fin : ∀ v : Int, v = (if w = 0 then s.1 4 p.toNat else if w = 1 then s.1 5 p.toNat else ownP s.1 p) → J 73 [some (vR 159), some (vI p), some (vI w)] [vI v] M1 := fun v hv => R_X11_person_73 R (hQ M1 v mf h1 e0 (fun _ => hv))
      refine R_X11_person_52 R (br (fun g => R_X11_person_68 R (an o159 ⟨s.1, rfl, g1, fin _ ?_⟩)) (fun g => an o159 (an (ak_of sh175 c1.1 (by omega)) ?_)))
      · have g : 2 ≤ w := g
        rw [if_neg (by omega), if_neg (by omega)]
      · have g : ¬ 2 ≤ w := g
        rw [pe_row rfl]
        refine an (ak_of (sh_pe _ (by omega)) c2.1 (by omega)) (fin _ ?_)
        by_cases e : w = 0
        · subst e; rw [if_pos rfl]; exact q0
        · have e : w = 1 := by omega
          subst e; rw [if_neg (by decide), if_pos rfl]; exact q1
    have atB : (0 ≤ p ∧ p < s.1 10 1) → ∀ b : Int, (b = 0 ∧ (0 ≤ w ∧ w ≤ 2)) ∨ (b = 1 ∧ ¬ (0 ≤ w ∧ w ≤ 2)) → J 42 [some (vR 159), some (vI p), some (vI w)] [vI b, vR 159] (up M 159 0 0) := by
      intro c1 b hb
      rcases hb with ⟨rfl, c2⟩ | ⟨rfl, c2⟩
      · exact R_X11_person_42 R (an o159 ⟨⟨rfl, by decide, by decide, e0⟩, fun z => absurd rfl z, fun _ => bt rfl (body c1 c2)⟩)
      · exact R_X11_person_42 R (an o159 ⟨⟨rfl, by decide, by decide, e0⟩, fun _ => bf (by decide) (R_X11_person_50 R (m_no (cd := cd2) (Q := fun r M' => Q (.inl r) M') hM 2 2 (by decide) rfl (no2 c1 c2) 0 hQ)), fun z => absurd z (by decide)⟩)
    have at1 : ∀ b : Int, (b = 0 ∧ (0 ≤ p ∧ p < s.1 10 1)) ∨ (b = 1 ∧ ¬ (0 ≤ p ∧ p < s.1 10 1)) → J 19 [some (vR 159), some (vI p), some (vI w)] [vI b, vR 159] (up M 159 0 0) := by
      intro b hb
      rcases hb with ⟨rfl, c1⟩ | ⟨rfl, c1⟩
      · exact R_X11_person_19 R (an o159 ⟨⟨rfl, by decide, by decide, e0⟩, fun z => absurd rfl z, fun _ => bf (by decide) (br (fun d0 => bt (by decide) (R_X11_person_41 R (atB c1 0 (Or.inl ⟨rfl, by omega⟩)))) (fun d0 => bf (by decide) (atB c1 1 (Or.inr ⟨rfl, by omega⟩))))⟩)
      · exact R_X11_person_19 R (an o159 ⟨⟨rfl, by decide, by decide, e0⟩, fun _ => bt (by decide) (R_X11_person_50 R (m_no (cd := cd2) (Q := fun r M' => Q (.inl r) M') hM 1 1 (by decide) rfl (no1 c1) 0 hQ)), fun z => absurd z (by decide)⟩)
    exact ⟨Nat.le_of_ble_eq_true rfl, R_X11_person_0 R (an o159 (an o159 ⟨s.1, rfl, h1.1, br (fun d0 => bt (by decide) (R_X11_person_18 R (at1 0 (Or.inl ⟨rfl, d0⟩)))) (fun d0 => bf (by decide) (at1 1 (Or.inr ⟨rfl, d0⟩)))⟩))⟩
  · exact h.elim
theorem P_X11_thing {J : JT} {Q : QT} (R : R_X11_thing J Q) {as : List Vl} {M : Mem} (h : nf G_X11_thing as M Q) : (enL as).length ≤ 3 ∧ J 0 (padL 3 (enL as)) [] M := by
  unfold nf G_X11_thing at h
  split at h
  · rename_i k t w
    obtain ⟨rfl, s, hM, hQ⟩ := h
    have h1 := hM.t0 0
    have e0 : up M 159 0 0 159 0 = 0 := up_eq
    have mf : MF M (up M 159 0 0) := MF.t0 M 0
    have no1 : ¬ (0 ≤ t ∧ t < s.1 10 2) → an_thing t w s = nay s 1 := fun c => if_pos c
    have no2 : (0 ≤ t ∧ t < s.1 10 2) → ¬ (0 ≤ w ∧ w ≤ 3) → an_thing t w s = nay s 2 := fun c1 c2 => (if_neg (fun z => z c1)).trans (if_pos c2)
    have body : (0 ≤ t ∧ t < s.1 10 2) → (0 ≤ w ∧ w ≤ 3) → J 52 [some (vR 159), some (vI t), some (vI w)] [] (up M 159 0 0) := by
      intro c1 c2
      have ea : an_thing t w s = _ := (if_neg (fun z => z c1)).trans (if_neg (fun z => z c2))
      rw [ea] at hQ
      generalize up M 159 0 0 = M1 at h1 e0 mf
      have g1 := h1.1
      have n1 := nT_le g1.1
      have tt : t.toNat < nT s.1 := by omega
      have w35 := h1.2.2.2.2.2.2.1
      refine R_X11_thing_52 R (an o159 ⟨s.1, rfl, g1, fun M2 f2 r2 => ?_⟩)
      have h2 : Mdl M2 s := h1.kept (fun u v hu => f2 u v (by unfold RC at hu; omega)) (by rw [f2 _ _ (by omega)]; exact h1.2.2.2.2.2.2.2)
      have mf2 : MF M M2 := mf.tr (fun u v hu => f2 u v (by omega))
      have e2 : M2 159 0 = 0 := (f2 _ _ (by omega)).trans e0
      obtain ⟨q0, q1, q2, q3⟩ := h2.1.2.2.2.1 t.toNat tt
      have fin : ∀ v : Int, v = (if w < 3 then s.1 w.toNat t.toNat else thC s.1 (-1) t.toNat) → J 78 [some (vR 159), some (vI t), some (vI w)] [vI v] M2 := fun v hv => R_X11_thing_78 R (hQ M2 v mf2 h2 e2 (fun _ => hv))
      refine br (fun g => R_X11_thing_72 R (an o159 (an (ak_of sh294 c1.1 (by omega)) (fin _ ?_)))) (fun g => an o159 (an (ak_of sh201 c1.1 (by omega)) ?_))
      · have g : 3 ≤ w := g
        rw [w35] at r2
        rw [if_neg (by omega), show M2 (159 + 135) t.toNat = _ from r2 _ tt (by omega)]
        unfold thC
        rw [if_neg (by omega)]
      · have g : ¬ 3 ≤ w := g
        rw [th_row rfl]
        refine an (ak_of (sh_th _ (by omega)) c2.1 (by omega)) (fin _ ?_)
        rw [if_pos (by omega)]
        rcases (show w = 0 ∨ w = 1 ∨ w = 2 by omega) with rfl | rfl | rfl
        · exact q0
        · exact q1
        · exact q2
    have atB : (0 ≤ t ∧ t < s.1 10 2) → ∀ b : Int, (b = 0 ∧ (0 ≤ w ∧ w ≤ 3)) ∨ (b = 1 ∧ ¬ (0 ≤ w ∧ w ≤ 3)) → J 42 [some (vR 159), some (vI t), some (vI w)] [vI b, vR 159] (up M 159 0 0) := by
      intro c1 b hb
      rcases hb with ⟨rfl, c2⟩ | ⟨rfl, c2⟩
      · exact R_X11_thing_42 R (an o159 ⟨⟨rfl, by decide, by decide, e0⟩, fun z => absurd rfl z, fun _ => bt rfl (body c1 c2)⟩)
      · exact R_X11_thing_42 R (an o159 ⟨⟨rfl, by decide, by decide, e0⟩, fun _ => bf (by decide) (R_X11_thing_50 R (m_no (cd := cd2) (Q := fun r M' => Q (.inl r) M') hM 2 2 (by decide) rfl (no2 c1 c2) 0 hQ)), fun z => absurd z (by decide)⟩)
    have at1 : ∀ b : Int, (b = 0 ∧ (0 ≤ t ∧ t < s.1 10 2)) ∨ (b = 1 ∧ ¬ (0 ≤ t ∧ t < s.1 10 2)) → J 19 [some (vR 159), some (vI t), some (vI w)] [vI b, vR 159] (up M 159 0 0) := by
      intro b hb
      rcases hb with ⟨rfl, c1⟩ | ⟨rfl, c1⟩
      · exact R_X11_thing_19 R (an o159 ⟨⟨rfl, by decide, by decide, e0⟩, fun z => absurd rfl z, fun _ => bf (by decide) (br (fun d0 => bt (by decide) (R_X11_thing_41 R (atB c1 0 (Or.inl ⟨rfl, by omega⟩)))) (fun d0 => bf (by decide) (atB c1 1 (Or.inr ⟨rfl, by omega⟩))))⟩)
      · exact R_X11_thing_19 R (an o159 ⟨⟨rfl, by decide, by decide, e0⟩, fun _ => bt (by decide) (R_X11_thing_50 R (m_no (cd := cd2) (Q := fun r M' => Q (.inl r) M') hM 1 1 (by decide) rfl (no1 c1) 0 hQ)), fun z => absurd z (by decide)⟩)
    exact ⟨Nat.le_of_ble_eq_true rfl, R_X11_thing_0 R (an o159 (an o159 ⟨s.1, rfl, h1.1, br (fun d0 => bt (by decide) (R_X11_thing_18 R (at1 0 (Or.inl ⟨rfl, d0⟩)))) (fun d0 => bf (by decide) (at1 1 (Or.inr ⟨rfl, d0⟩)))⟩))⟩
  · exact h.elim
theorem P_X11_told {J : JT} {Q : QT} (R : R_X11_told J Q) {as : List Vl} {M : Mem} (h : nf G_X11_told as M Q) : (enL as).length ≤ 2 ∧ J 0 (padL 2 (enL as)) [] M := by
  unfold nf G_X11_told at h
  split at h
  · rename_i k w
    obtain ⟨rfl, s, hM, hQ⟩ := h
    have h1 := hM.t0 0
    have e0 : up M 159 0 0 159 0 = 0 := up_eq
    have mf : MF M (up M 159 0 0) := MF.t0 M 0
    have no2 : ¬ (0 ≤ w ∧ w ≤ 5) → an_told w s = nay s 2 := fun c => if_pos c
    have body : (0 ≤ w ∧ w ≤ 5) → J 30 [some (vR 159), some (vI w)] [] (up M 159 0 0) := by
      intro c1
      have ea : an_told w s = _ := if_neg (fun z => z c1)
      rw [ea] at hQ
      generalize up M 159 0 0 = M1 at h1 e0 mf
      obtain ⟨a0, a1, a2, a3, a4⟩ := h1.1.2.1
      have l22 := h1.2.1.2.1
      have fin : ∀ v : Int, v = (if w < 4 then s.1 10 (w.toNat + 1) else if w = 4 then s.1 10 5 else s.1 10 0) → J 62 [some (vR 159), some (vI w)] [vI v] M1 := fun v hv => R_X11_told_62 R (hQ M1 v mf h1 e0 (fun _ => hv))
      refine R_X11_told_30 R (br (fun g => R_X11_told_44 R (br (fun g2 => R_X11_told_56 R (an o159 (an (ak_of sh163 (by decide) (by decide)) (fin _ ?_)))) (fun g2 => an o159 (fin _ ?_)))) (fun g => an o159 (an (ak_of sh163 c1.1 ?_) (fin _ ?_))))
      · have g : 4 ≤ w := g
        have g2 : ¬ w = 4 := g2
        rw [if_neg (by omega), if_neg g2]
        exact a4
      · have g : 4 ≤ w := g
        have g2 : w = 4 := Classical.not_not.mp g2
        rw [if_neg (by omega), if_pos g2]
        exact l22
      · have g : ¬ 4 ≤ w := g
        omega
      · have g : ¬ 4 ≤ w := g
        rw [if_pos (by omega)]
        rcases (show w = 0 ∨ w = 1 ∨ w = 2 ∨ w = 3 by omega) with rfl | rfl | rfl | rfl
        · exact a0
        · exact a1
        · exact a2
        · exact a3
    have atB : ∀ b : Int, (b = 0 ∧ (0 ≤ w ∧ w ≤ 5)) ∨ (b = 1 ∧ ¬ (0 ≤ w ∧ w ≤ 5)) → J 20 [some (vR 159), some (vI w)] [vI b, vR 159] (up M 159 0 0) := by
      intro b hb
      rcases hb with ⟨rfl, c2⟩ | ⟨rfl, c2⟩
      · exact R_X11_told_20 R (an o159 ⟨⟨rfl, by decide, by decide, e0⟩, fun z => absurd rfl z, fun _ => bt rfl (body c2)⟩)
      · exact R_X11_told_20 R (an o159 ⟨⟨rfl, by decide, by decide, e0⟩, fun _ => bf (by decide) (m_no (cd := cd1) (Q := fun r M' => Q (.inl r) M') hM 2 1 (by decide) rfl (no2 c2) 0 hQ), fun z => absurd z (by decide)⟩)
    exact ⟨Nat.le_of_ble_eq_true rfl, R_X11_told_0 R (an o159 (br (fun d0 => bt (by decide) (R_X11_told_19 R (atB 0 (Or.inl ⟨rfl, by omega⟩)))) (fun d0 => bf (by decide) (atB 1 (Or.inr ⟨rfl, by omega⟩)))))⟩
  · exact h.elim
theorem P_X11_holds {J : JT} {Q : QT} (R : R_X11_holds J Q) {as : List Vl} {M : Mem} (h : nf G_X11_holds as M Q) : (enL as).length ≤ 3 ∧ J 0 (padL 3 (enL as)) [] M := by
  unfold nf G_X11_holds at h
  split at h
  · rename_i k t m
    obtain ⟨rfl, s, hM, hQ⟩ := h
    have h1 := hM.t0 0
    have e0 : up M 159 0 0 159 0 = 0 := up_eq
    have mf : MF M (up M 159 0 0) := MF.t0 M 0
    have no1 : ¬ (0 ≤ t ∧ t < s.1 10 2) → an_holds t m s = nay s 1 := fun c => if_pos c
    have no2 : (0 ≤ t ∧ t < s.1 10 2) → ¬ (0 ≤ m ∧ m < 120) → an_holds t m s = nay s 2 := fun c1 c2 => (if_neg (fun z => z c1)).trans (if_pos c2)
    have body : (0 ≤ t ∧ t < s.1 10 2) → (0 ≤ m ∧ m < 120) → J 50 [some (vR 159), some (vI t), some (vI m)] [] (up M 159 0 0) := by
      intro c1 c2
      have ea : an_holds t m s = _ := (if_neg (fun z => z c1)).trans (if_neg (fun z => z c2))
      rw [ea] at hQ
      generalize up M 159 0 0 = M1 at h1 e0 mf
      have kp : ∀ M2 : Mem, (∀ u v, (u < 292 ∨ 330 < u) → ¬ (u = 159 ∧ v = 36) → M2 u v = M1 u v) → Mdl M2 s ∧ MF M M2 ∧ M2 159 0 = 0 := fun M2 f2 => ⟨h1.kept (fun u v hu => f2 u v (by unfold RC at hu; omega) (by unfold RC at hu; omega)) (by rw [f2 _ _ (by omega) (by omega)]; exact h1.2.2.2.2.2.2.2), mf.tr (fun u v hu => f2 u v (by omega) (by omega)), (f2 _ _ (by omega) (by omega)).trans e0⟩
      have w35 := h1.2.2.2.2.2.2.1
      have b37 := h1.2.2.2.2.2.2.2
      
      generalize hM2 : up M1 159 36 1000000 = M2
      have f2 : ∀ u v, ¬ (u = 159 ∧ v = 36) → M2 u v = M1 u v := fun u v hu => by rw [← hM2, up_ne hu]
      have e36 : M2 159 36 = 1000000 := by rw [← hM2]; exact up_eq
      have e37 : M2 159 37 = M1 159 37 := f2 _ _ (by omega)
      have e35 : M2 159 35 = -1 := (f2 _ _ (by omega)).trans w35
      have h2 := (kp M2 (fun u v hu hv => f2 u v hv)).1
      have er : ∀ n, n ≤ 1000 → rnM M2 s.1 n = run s.1 (-1) n := by
        intro n hn
        unfold rnM
        rw [e35, e36]
        exact run_far _ _ _ _ n (by omega)
      
      have n1 := nT_le h1.1.1
      refine R_X11_holds_50 R (an o159 ?_)
      rw [hM2]
      refine an o159 ⟨s.1, ⟨rfl, c2.1, by omega, by rw [e37]; exact b37.1, by rw [e37]; exact b37.2⟩, h2.1, h2.2.1, fun M3 g1 g2 g3 g4 => an o159 (an (ak_of sh292 c1.1 (by omega)) ?_)⟩
      obtain ⟨k1, k2, k3⟩ := kp M3 (fun u v hu hv => (g1 u v hu).trans (f2 u v hv))
      rw [e35, er _ (by omega)] at g2
      exact hQ M3 _ k2 k1 k3 (fun _ => ((g2.1 t.toNat (by omega)).1 (by omega)).1)
    have atB : (0 ≤ t ∧ t < s.1 10 2) → ∀ b : Int, (b = 0 ∧ (0 ≤ m ∧ m < 120)) ∨ (b = 1 ∧ ¬ (0 ≤ m ∧ m < 120)) → J 40 [some (vR 159), some (vI t), some (vI m)] [vI b, vR 159] (up M 159 0 0) := by
      intro c1 b hb
      rcases hb with ⟨rfl, c2⟩ | ⟨rfl, c2⟩
      · exact R_X11_holds_40 R (an o159 ⟨⟨rfl, by decide, by decide, e0⟩, fun z => absurd rfl z, fun _ => bt rfl (body c1 c2)⟩)
      · exact R_X11_holds_40 R (an o159 ⟨⟨rfl, by decide, by decide, e0⟩, fun _ => bf (by decide) (R_X11_holds_48 R (m_no (cd := cd2) (Q := fun r M' => Q (.inl r) M') hM 2 2 (by decide) rfl (no2 c1 c2) 0 hQ)), fun z => absurd z (by decide)⟩)
    have at1 : ∀ b : Int, (b = 0 ∧ (0 ≤ t ∧ t < s.1 10 2)) ∨ (b = 1 ∧ ¬ (0 ≤ t ∧ t < s.1 10 2)) → J 19 [some (vR 159), some (vI t), some (vI m)] [vI b, vR 159] (up M 159 0 0) := by
      intro b hb
      rcases hb with ⟨rfl, c1⟩ | ⟨rfl, c1⟩
      · exact R_X11_holds_19 R (an o159 ⟨⟨rfl, by decide, by decide, e0⟩, fun z => absurd rfl z, fun _ => bf (by decide) (br (fun d0 => bt (by decide) (R_X11_holds_39 R (atB c1 0 (Or.inl ⟨rfl, by omega⟩)))) (fun d0 => bf (by decide) (atB c1 1 (Or.inr ⟨rfl, by omega⟩))))⟩)
      · exact R_X11_holds_19 R (an o159 ⟨⟨rfl, by decide, by decide, e0⟩, fun _ => bt (by decide) (R_X11_holds_48 R (m_no (cd := cd2) (Q := fun r M' => Q (.inl r) M') hM 1 1 (by decide) rfl (no1 c1) 0 hQ)), fun z => absurd z (by decide)⟩)
    exact ⟨Nat.le_of_ble_eq_true rfl, R_X11_holds_0 R (an o159 (an o159 ⟨s.1, rfl, h1.1, br (fun d0 => bt (by decide) (R_X11_holds_18 R (at1 0 (Or.inl ⟨rfl, d0⟩)))) (fun d0 => bf (by decide) (at1 1 (Or.inr ⟨rfl, d0⟩)))⟩))⟩
  · exact h.elim
theorem P_X11_pounds {J : JT} {Q : QT} (R : R_X11_pounds J Q) {as : List Vl} {M : Mem} (h : nf G_X11_pounds as M Q) : (enL as).length ≤ 4 ∧ J 0 (padL 4 (enL as)) [] M := by
  unfold nf G_X11_pounds at h
  split at h
  · rename_i k p m w
    obtain ⟨rfl, s, hM, hQ⟩ := h
    have h1 := hM.t0 0
    have e0 : up M 159 0 0 159 0 = 0 := up_eq
    have mf : MF M (up M 159 0 0) := MF.t0 M 0
    have no1 : ¬ (0 ≤ p ∧ p < s.1 10 1) → an_pounds p m w s = nay s 1 := fun c => if_pos c
    have no2 : (0 ≤ p ∧ p < s.1 10 1) → ¬ ((0 ≤ m ∧ m < 120) ∧ (w = 0 ∨ w = 1)) → an_pounds p m w s = nay s 2 := fun c1 c2 => (if_neg (fun z => z c1)).trans (if_pos c2)
    have body : (0 ≤ p ∧ p < s.1 10 1) → ((0 ≤ m ∧ m < 120) ∧ (w = 0 ∨ w = 1)) → J 59 [some (vR 159), some (vI p), some (vI m), some (vI w)] [] (up M 159 0 0) := by
      intro c1 c2
      have ea : an_pounds p m w s = _ := (if_neg (fun z => z c1)).trans (if_neg (fun z => z c2))
      rw [ea] at hQ
      generalize up M 159 0 0 = M1 at h1 e0 mf
      have kp : ∀ M2 : Mem, (∀ u v, (u < 292 ∨ 330 < u) → ¬ (u = 159 ∧ v = 36) → M2 u v = M1 u v) → Mdl M2 s ∧ MF M M2 ∧ M2 159 0 = 0 := fun M2 f2 => ⟨h1.kept (fun u v hu => f2 u v (by unfold RC at hu; omega) (by unfold RC at hu; omega)) (by rw [f2 _ _ (by omega) (by omega)]; exact h1.2.2.2.2.2.2.2), mf.tr (fun u v hu => f2 u v (by omega) (by omega)), (f2 _ _ (by omega) (by omega)).trans e0⟩
      have w35 := h1.2.2.2.2.2.2.1
      have b37 := h1.2.2.2.2.2.2.2
      
      generalize hM2 : up M1 159 36 1000000 = M2
      have f2 : ∀ u v, ¬ (u = 159 ∧ v = 36) → M2 u v = M1 u v := fun u v hu => by rw [← hM2, up_ne hu]
      have e36 : M2 159 36 = 1000000 := by rw [← hM2]; exact up_eq
      have e37 : M2 159 37 = M1 159 37 := f2 _ _ (by omega)
      have e35 : M2 159 35 = -1 := (f2 _ _ (by omega)).trans w35
      have h2 := (kp M2 (fun u v hu hv => f2 u v hv)).1
      have er : ∀ n, n ≤ 1000 → rnM M2 s.1 n = run s.1 (-1) n := by
        intro n hn
        unfold rnM
        rw [e35, e36]
        exact run_far _ _ _ _ n (by omega)
      
      have n1 := nP_le h1.1.1
      refine R_X11_pounds_59 R (an o159 ?_)
      rw [hM2]
      refine an o159 ⟨s.1, ⟨rfl, c2.1.1, by omega, by rw [e37]; exact b37.1, by rw [e37]; exact b37.2⟩, h2.1, h2.2.1, fun M3 g1 g2 g3 g4 => ?_⟩
      obtain ⟨k1, k2, k3⟩ := kp M3 (fun u v hu hv => (g1 u v hu).trans (f2 u v hv))
      rw [e35, er _ (by omega)] at g2
      rw [er _ (by omega)] at g3
      have pn : ((p.toNat : Nat) : Int) = p := by omega
      have fin : ∀ v : Int, v = (if w = 0 then ldF s.1 (run s.1 (-1) (m.toNat + 1)) p else run s.1 (-1) (m.toNat + 1) 2 p.toNat) → J 90 [some (vR 159), some (vI p), some (vI m), some (vI w)] [vI v] M3 := fun v hv => R_X11_pounds_90 R (hQ M3 v k2 k1 k3 (fun _ => hv))
      refine br (fun g => R_X11_pounds_84 R (an o159 (an (ak_of sh295 c1.1 (by omega)) (fin _ ?_)))) (fun g => an o159 (an (ak_of sh297 c1.1 (by omega)) (fin _ ?_)))
      · have g : ¬ w = 0 := g
        rw [if_neg g]
        exact (g2.2 _ (by omega)).1
      · have g : w = 0 := Classical.not_not.mp g
        rw [if_pos g]
        have := g3 p.toNat (by omega)
        rw [pn] at this
        exact this
    have atB : (0 ≤ p ∧ p < s.1 10 1) → ∀ b : Int, (b = 0 ∧ ((0 ≤ m ∧ m < 120) ∧ (w = 0 ∨ w = 1))) ∨ (b = 1 ∧ ¬ ((0 ≤ m ∧ m < 120) ∧ (w = 0 ∨ w = 1))) → J 49 [some (vR 159), some (vI p), some (vI m), some (vI w)] [vI b, vR 159] (up M 159 0 0) := by
      intro c1 b hb
      rcases hb with ⟨rfl, c2⟩ | ⟨rfl, c2⟩
      · exact R_X11_pounds_49 R (an o159 ⟨⟨rfl, by decide, by decide, e0⟩, fun z => absurd rfl z, fun _ => bt rfl (body c1 c2)⟩)
      · exact R_X11_pounds_49 R (an o159 ⟨⟨rfl, by decide, by decide, e0⟩, fun _ => bf (by decide) (R_X11_pounds_57 R (m_no (cd := cd2) (Q := fun r M' => Q (.inl r) M') hM 2 2 (by decide) rfl (no2 c1 c2) 0 hQ)), fun z => absurd z (by decide)⟩)
    have at1 : ∀ b : Int, (b = 0 ∧ (0 ≤ p ∧ p < s.1 10 1)) ∨ (b = 1 ∧ ¬ (0 ≤ p ∧ p < s.1 10 1)) → J 19 [some (vR 159), some (vI p), some (vI m), some (vI w)] [vI b, vR 159] (up M 159 0 0) := by
      intro b hb
      rcases hb with ⟨rfl, c1⟩ | ⟨rfl, c1⟩
      · exact R_X11_pounds_19 R (an o159 ⟨⟨rfl, by decide, by decide, e0⟩, fun z => absurd rfl z, fun _ => bf (by decide) (br (fun d0 => bf (by decide) (br (fun d1 => bt (by decide) (R_X11_pounds_48 R (atB c1 0 (Or.inl ⟨rfl, by omega⟩)))) (fun d1 => bf (by decide) (R_X11_pounds_44 R (atB c1 1 (Or.inr ⟨rfl, by omega⟩)))))) (fun d0 => bt rfl (R_X11_pounds_44 R (atB c1 1 (Or.inr ⟨rfl, by omega⟩)))))⟩)
      · exact R_X11_pounds_19 R (an o159 ⟨⟨rfl, by decide, by decide, e0⟩, fun _ => bt (by decide) (R_X11_pounds_57 R (m_no (cd := cd2) (Q := fun r M' => Q (.inl r) M') hM 1 1 (by decide) rfl (no1 c1) 0 hQ)), fun z => absurd z (by decide)⟩)
    exact ⟨Nat.le_of_ble_eq_true rfl, R_X11_pounds_0 R (an o159 (an o159 ⟨s.1, rfl, h1.1, br (fun d0 => bt (by decide) (R_X11_pounds_18 R (at1 0 (Or.inl ⟨rfl, d0⟩)))) (fun d0 => bf (by decide) (at1 1 (Or.inr ⟨rfl, d0⟩)))⟩))⟩
  · exact h.elim
theorem P_X11_spent {J : JT} {Q : QT} (R : R_X11_spent J Q) {as : List Vl} {M : Mem} (h : nf G_X11_spent as M Q) : (enL as).length ≤ 2 ∧ J 0 (padL 2 (enL as)) [] M := by
  unfold nf G_X11_spent at h
  split at h
  · rename_i k p
    obtain ⟨rfl, s, hM, hQ⟩ := h
    have h1 := hM.t0 0
    have e0 : up M 159 0 0 159 0 = 0 := up_eq
    have mf : MF M (up M 159 0 0) := MF.t0 M 0
    have no1 : ¬ (0 ≤ p ∧ p < s.1 10 1) → an_spent p s = nay s 1 := fun c => if_pos c
    have body : (0 ≤ p ∧ p < s.1 10 1) → J 29 [some (vR 159), some (vI p)] [] (up M 159 0 0) := by
      intro c1
      have ea : an_spent p s = _ := if_neg (fun z => z c1)
      rw [ea] at hQ
      generalize up M 159 0 0 = M1 at h1 e0 mf
      have kp : ∀ M2 : Mem, (∀ u v, (u < 292 ∨ 330 < u) → ¬ (u = 159 ∧ v = 36) → M2 u v = M1 u v) → Mdl M2 s ∧ MF M M2 ∧ M2 159 0 = 0 := fun M2 f2 => ⟨h1.kept (fun u v hu => f2 u v (by unfold RC at hu; omega) (by unfold RC at hu; omega)) (by rw [f2 _ _ (by omega) (by omega)]; exact h1.2.2.2.2.2.2.2), mf.tr (fun u v hu => f2 u v (by omega) (by omega)), (f2 _ _ (by omega) (by omega)).trans e0⟩
      have w35 := h1.2.2.2.2.2.2.1
      have b37 := h1.2.2.2.2.2.2.2
      
      have n1 := nP_le h1.1.1
      refine R_X11_spent_29 R (an o159 ⟨s.1, ⟨rfl, b37.1, b37.2⟩, h1.1, h1.2.1, fun M3 g1 g2 g4 => an o159 (an (ak_of sh296 c1.1 (by omega)) ?_)⟩)
      obtain ⟨k1, k2, k3⟩ := kp M3 g1
      rw [w35] at g2
      exact hQ M3 _ k2 k1 k3 (fun _ => (g2.2 _ (by omega)).2)
    have at1 : ∀ b : Int, (b = 0 ∧ (0 ≤ p ∧ p < s.1 10 1)) ∨ (b = 1 ∧ ¬ (0 ≤ p ∧ p < s.1 10 1)) → J 19 [some (vR 159), some (vI p)] [vI b, vR 159] (up M 159 0 0) := by
      intro b hb
      rcases hb with ⟨rfl, c1⟩ | ⟨rfl, c1⟩
      · exact R_X11_spent_19 R (an o159 ⟨⟨rfl, by decide, by decide, e0⟩, fun z => absurd rfl z, fun _ => bt rfl (body c1)⟩)
      · exact R_X11_spent_19 R (an o159 ⟨⟨rfl, by decide, by decide, e0⟩, fun _ => bf (by decide) (m_no (cd := cd1) (Q := fun r M' => Q (.inl r) M') hM 1 1 (by decide) rfl (no1 c1) 0 hQ), fun z => absurd z (by decide)⟩)
    exact ⟨Nat.le_of_ble_eq_true rfl, R_X11_spent_0 R (an o159 (an o159 ⟨s.1, rfl, h1.1, br (fun d0 => bt (by decide) (R_X11_spent_18 R (at1 0 (Or.inl ⟨rfl, d0⟩)))) (fun d0 => bf (by decide) (at1 1 (Or.inr ⟨rfl, d0⟩)))⟩))⟩

  · exact h.elim