
theorem cn_nn {Ab : Mem} (ho : HallOK Ab) (k : Nat) (law : Int) (side : Nat) : 0 ≤ cnM Ab k law side ∧ cnM Ab k law side ≤ 13860 := cnt_bd ho (fun p _ => ld_bd ho _ _) _ law (Nat.le_refl _)
theorem chr_ps {M2 Ab : Mem} (hc : ChrRel M2 Ab) {law : Int} (h0 : 0 ≤ law) (h2 : law < 3) : pbN (fun i => decide (M2 68 (ix i law.toNat 1) < M2 68 (ix i law.toNat 0))) (nM Ab) = psN Ab (-1) law := by
  refine pbN_cong (fun i hi => ?_)
  have e : ((law.toNat : Nat) : Int) = law := by omega
  have a0 := hc.2.2.2.1 i law.toNat 0 hi (by omega) (by decide)
  have a1 := hc.2.2.2.1 i law.toNat 1 hi (by omega) (by decide)
  rw [e] at a0 a1
  rw [a0, a1]
  rfl

def G_X10_fault : FN := fun as M Q => match as with
  | [.inr (.inl k)] => k = 0 ∧ cN an_fault M Q
  | _ => False
def F_X10_told : FT := fun as M Q => match as with
  | [.inr (.inl k), .inl w] => k = 0 ∧ cS (an_told w) M Q
  | _ => False
def F_X10_person : FT := fun as M Q => match as with
  | [.inr (.inl k), .inl p, .inl w] => k = 0 ∧ cS (an_person p w) M Q
  | _ => False
def F_X10_thing : FT := fun as M Q => match as with
  | [.inr (.inl k), .inl t, .inl w] => k = 0 ∧ cS (an_thing t w) M Q
  | _ => False
def F_X10_holds : FT := fun as M Q => match as with
  | [.inr (.inl k), .inl t, .inl m] => k = 0 ∧ cS (an_holds t m) M Q
  | _ => False
def F_X10_spent : FT := fun as M Q => match as with
  | [.inr (.inl k), .inl p] => k = 0 ∧ cS (an_spent p) M Q
  | _ => False
def F_X10_pounds : FT := fun as M Q => match as with
  | [.inr (.inl k), .inl p, .inl m, .inl w] => k = 0 ∧ cS (an_pounds p m w) M Q
  | _ => False
def F_X10_passes : FT := fun as M Q => match as with
  | [.inr (.inl k), .inl law] => k = 0 ∧ cS (an_passes law) M Q
  | _ => False
def F_X10_unlike : FT := fun as M Q => match as with
  | [.inr (.inl k), .inl law, .inl ot] => k = 0 ∧ cS (an_unlike law ot) M Q
  | _ => False
def F_X10_motion : FT := fun as M Q => match as with
  | [.inr (.inl k), .inl m, .inl law, .inl w] => k = 0 ∧ cS (an_motion m law w) M Q
  | _ => False
def b_X10_fault_0 : List AT := [tx_al 0, tx_gr 10 1, tx_gi 9 6, tx_ri]
def R_X10_fault (J : JT) (Q : QT) : Prop := (∀ ls st M, wpl J Q b_X10_fault_0 ls st M → J 0 ls st M)
theorem R_X10_fault_0 {J : JT} {Q : QT} (R : R_X10_fault J Q) {ls : Ls} {st : St} {M : Mem} (h : wpl J Q b_X10_fault_0 ls st M) : J 0 ls st M := R ls st M h
def b_X10_told_0 : List AT := [tx_al 0, tx_il 1, tx_ifz r_lt 14, tx_il 1, tx_ic 5, tx_cmp r_gt 14, tx_ic 1, tx_fall 15]
def b_X10_told_14 : List AT := [tx_ic 0, tx_fall 15]
def b_X10_told_15 : List AT := [tx_callv 10 F_X10_needArgument 1, tx_il 1, tx_sw [(0, 52), (1, 60), (2, 68), (3, 76), (4, 84)] 92]
def b_X10_told_52 : List AT := [tx_al 0, tx_gm 10 1, tx_gi 6 0, tx_ri]
def b_X10_told_60 : List AT := [tx_al 0, tx_gm 10 1, tx_gi 6 3, tx_ri]
def b_X10_told_68 : List AT := [tx_al 0, tx_gm 10 1, tx_gi 6 8, tx_ri]
def b_X10_told_76 : List AT := [tx_al 0, tx_gm 10 1, tx_gi 6 10, tx_ri]
def b_X10_told_84 : List AT := [tx_al 0, tx_gm 10 3, tx_gi 5 0, tx_ri]
def b_X10_told_92 : List AT := [tx_al 0, tx_gm 10 1, tx_gi 6 14, tx_ri]
def R_X10_told (J : JT) (Q : QT) : Prop := (∀ ls st M, wpl J Q b_X10_told_0 ls st M → J 0 ls st M) ∧ (∀ ls st M, wpl J Q b_X10_told_14 ls st M → J 14 ls st M) ∧ (∀ ls st M, wpl J Q b_X10_told_15 ls st M → J 15 ls st M) ∧ (∀ ls st M, wpl J Q b_X10_told_52 ls st M → J 52 ls st M) ∧ (∀ ls st M, wpl J Q b_X10_told_60 ls st M → J 60 ls st M) ∧ (∀ ls st M, wpl J Q b_X10_told_68 ls st M → J 68 ls st M) ∧ (∀ ls st M, wpl J Q b_X10_told_76 ls st M → J 76 ls st M) ∧ (∀ ls st M, wpl J Q b_X10_told_84 ls st M → J 84 ls st M) ∧ (∀ ls st M, wpl J Q b_X10_told_92 ls st M → J 92 ls st M)
theorem R_X10_told_0 {J : JT} {Q : QT} (R : R_X10_told J Q) {ls : Ls} {st : St} {M : Mem} (h : wpl J Q b_X10_told_0 ls st M) : J 0 ls st M := R.1 ls st M h
theorem R_X10_told_14 {J : JT} {Q : QT} (R : R_X10_told J Q) {ls : Ls} {st : St} {M : Mem} (h : wpl J Q b_X10_told_14 ls st M) : J 14 ls st M := R.2.1 ls st M h
theorem R_X10_told_15 {J : JT} {Q : QT} (R : R_X10_told J Q) {ls : Ls} {st : St} {M : Mem} (h : wpl J Q b_X10_told_15 ls st M) : J 15 ls st M := R.2.2.1 ls st M h
theorem R_X10_told_52 {J : JT} {Q : QT} (R : R_X10_told J Q) {ls : Ls} {st : St} {M : Mem} (h : wpl J Q b_X10_told_52 ls st M) : J 52 ls st M := R.2.2.2.1 ls st M h
theorem R_X10_told_60 {J : JT} {Q : QT} (R : R_X10_told J Q) {ls : Ls} {st : St} {M : Mem} (h : wpl J Q b_X10_told_60 ls st M) : J 60 ls st M := R.2.2.2.2.1 ls st M h
theorem R_X10_told_68 {J : JT} {Q : QT} (R : R_X10_told J Q) {ls : Ls} {st : St} {M : Mem} (h : wpl J Q b_X10_told_68 ls st M) : J 68 ls st M := R.2.2.2.2.2.1 ls st M h
theorem R_X10_told_76 {J : JT} {Q : QT} (R : R_X10_told J Q) {ls : Ls} {st : St} {M : Mem} (h : wpl J Q b_X10_told_76 ls st M) : J 76 ls st M := R.2.2.2.2.2.2.1 ls st M h
theorem R_X10_told_84 {J : JT} {Q : QT} (R : R_X10_told J Q) {ls : Ls} {st : St} {M : Mem} (h : wpl J Q b_X10_told_84 ls st M) : J 84 ls st M := R.2.2.2.2.2.2.2.1 ls st M h
theorem R_X10_told_92 {J : JT} {Q : QT} (R : R_X10_told J Q) {ls : Ls} {st : St} {M : Mem} (h : wpl J Q b_X10_told_92 ls st M) : J 92 ls st M := R.2.2.2.2.2.2.2.2 ls st M h
def b_X10_person_0 : List AT := [tx_al 0, tx_al 0, tx_gm 10 1, tx_il 1, tx_callv 6 (nf G_X6_hasPerson) 1, tx_callv 10 F_X10_needElement 1, tx_al 0, tx_il 2, tx_ifz r_lt 26, tx_il 2, tx_ic 2, tx_cmp r_gt 26, tx_ic 1, tx_fall 27]
def b_X10_person_26 : List AT := [tx_ic 0, tx_fall 27]
def b_X10_person_27 : List AT := [tx_callv 10 F_X10_needArgument 1, tx_il 2, tx_sw [(0, 56), (1, 66)] 76]
def b_X10_person_56 : List AT := [tx_al 0, tx_gm 10 1, tx_gr 6 1, tx_il 1, tx_ia, tx_ri]
def b_X10_person_66 : List AT := [tx_al 0, tx_gm 10 1, tx_gr 6 2, tx_il 1, tx_ia, tx_ri]
def b_X10_person_76 : List AT := [tx_al 0, tx_gm 10 1, tx_il 1, tx_callv 6 (nf G_X6_ownPounds) 1, tx_ri]
def R_X10_person (J : JT) (Q : QT) : Prop := (∀ ls st M, wpl J Q b_X10_person_0 ls st M → J 0 ls st M) ∧ (∀ ls st M, wpl J Q b_X10_person_26 ls st M → J 26 ls st M) ∧ (∀ ls st M, wpl J Q b_X10_person_27 ls st M → J 27 ls st M) ∧ (∀ ls st M, wpl J Q b_X10_person_56 ls st M → J 56 ls st M) ∧ (∀ ls st M, wpl J Q b_X10_person_66 ls st M → J 66 ls st M) ∧ (∀ ls st M, wpl J Q b_X10_person_76 ls st M → J 76 ls st M)
theorem R_X10_person_0 {J : JT} {Q : QT} (R : R_X10_person J Q) {ls : Ls} {st : St} {M : Mem} (h : wpl J Q b_X10_person_0 ls st M) : J 0 ls st M := R.1 ls st M h
theorem R_X10_person_26 {J : JT} {Q : QT} (R : R_X10_person J Q) {ls : Ls} {st : St} {M : Mem} (h : wpl J Q b_X10_person_26 ls st M) : J 26 ls st M := R.2.1 ls st M h
theorem R_X10_person_27 {J : JT} {Q : QT} (R : R_X10_person J Q) {ls : Ls} {st : St} {M : Mem} (h : wpl J Q b_X10_person_27 ls st M) : J 27 ls st M := R.2.2.1 ls st M h
theorem R_X10_person_56 {J : JT} {Q : QT} (R : R_X10_person J Q) {ls : Ls} {st : St} {M : Mem} (h : wpl J Q b_X10_person_56 ls st M) : J 56 ls st M := R.2.2.2.1 ls st M h
theorem R_X10_person_66 {J : JT} {Q : QT} (R : R_X10_person J Q) {ls : Ls} {st : St} {M : Mem} (h : wpl J Q b_X10_person_66 ls st M) : J 66 ls st M := R.2.2.2.2.1 ls st M h
theorem R_X10_person_76 {J : JT} {Q : QT} (R : R_X10_person J Q) {ls : Ls} {st : St} {M : Mem} (h : wpl J Q b_X10_person_76 ls st M) : J 76 ls st M := R.2.2.2.2.2 ls st M h
def b_X10_thing_0 : List AT := [tx_al 0, tx_al 0, tx_gm 10 1, tx_il 1, tx_callv 6 (nf G_X6_hasThing) 1, tx_callv 10 F_X10_needElement 1, tx_al 0, tx_il 2, tx_ifz r_lt 26, tx_il 2, tx_ic 3, tx_cmp r_gt 26, tx_ic 1, tx_fall 27]
def b_X10_thing_26 : List AT := [tx_ic 0, tx_fall 27]
def b_X10_thing_27 : List AT := [tx_callv 10 F_X10_needArgument 1, tx_il 2, tx_sw [(0, 56), (1, 66), (2, 76)] 86]
def b_X10_thing_56 : List AT := [tx_al 0, tx_gm 10 1, tx_gr 6 3, tx_il 1, tx_ia, tx_ri]
def b_X10_thing_66 : List AT := [tx_al 0, tx_gm 10 1, tx_gr 6 4, tx_il 1, tx_ia, tx_ri]
def b_X10_thing_76 : List AT := [tx_al 0, tx_gm 10 1, tx_gr 6 5, tx_il 1, tx_ia, tx_ri]
def b_X10_thing_86 : List AT := [tx_al 0, tx_callv 10 (nf G_X10_chronicled) 0, tx_gr 3 1, tx_gr 8 18, tx_il 1, tx_ia, tx_ri]
def R_X10_thing (J : JT) (Q : QT) : Prop := (∀ ls st M, wpl J Q b_X10_thing_0 ls st M → J 0 ls st M) ∧ (∀ ls st M, wpl J Q b_X10_thing_26 ls st M → J 26 ls st M) ∧ (∀ ls st M, wpl J Q b_X10_thing_27 ls st M → J 27 ls st M) ∧ (∀ ls st M, wpl J Q b_X10_thing_56 ls st M → J 56 ls st M) ∧ (∀ ls st M, wpl J Q b_X10_thing_66 ls st M → J 66 ls st M) ∧ (∀ ls st M, wpl J Q b_X10_thing_76 ls st M → J 76 ls st M) ∧ (∀ ls st M, wpl J Q b_X10_thing_86 ls st M → J 86 ls st M)
theorem R_X10_thing_0 {J : JT} {Q : QT} (R : R_X10_thing J Q) {ls : Ls} {st : St} {M : Mem} (h : wpl J Q b_X10_thing_0 ls st M) : J 0 ls st M := R.1 ls st M h
theorem R_X10_thing_26 {J : JT} {Q : QT} (R : R_X10_thing J Q) {ls : Ls} {st : St} {M : Mem} (h : wpl J Q b_X10_thing_26 ls st M) : J 26 ls st M := R.2.1 ls st M h
theorem R_X10_thing_27 {J : JT} {Q : QT} (R : R_X10_thing J Q) {ls : Ls} {st : St} {M : Mem} (h : wpl J Q b_X10_thing_27 ls st M) : J 27 ls st M := R.2.2.1 ls st M h
theorem R_X10_thing_56 {J : JT} {Q : QT} (R : R_X10_thing J Q) {ls : Ls} {st : St} {M : Mem} (h : wpl J Q b_X10_thing_56 ls st M) : J 56 ls st M := R.2.2.2.1 ls st M h
theorem R_X10_thing_66 {J : JT} {Q : QT} (R : R_X10_thing J Q) {ls : Ls} {st : St} {M : Mem} (h : wpl J Q b_X10_thing_66 ls st M) : J 66 ls st M := R.2.2.2.2.1 ls st M h
theorem R_X10_thing_76 {J : JT} {Q : QT} (R : R_X10_thing J Q) {ls : Ls} {st : St} {M : Mem} (h : wpl J Q b_X10_thing_76 ls st M) : J 76 ls st M := R.2.2.2.2.2.1 ls st M h
theorem R_X10_thing_86 {J : JT} {Q : QT} (R : R_X10_thing J Q) {ls : Ls} {st : St} {M : Mem} (h : wpl J Q b_X10_thing_86 ls st M) : J 86 ls st M := R.2.2.2.2.2.2 ls st M h
def b_X10_holds_0 : List AT := [tx_al 0, tx_al 0, tx_gm 10 1, tx_il 1, tx_callv 6 (nf G_X6_hasThing) 1, tx_callv 10 F_X10_needElement 1, tx_al 0, tx_il 2, tx_call (nf G_X10_isMinute) 1, tx_callv 10 F_X10_needArgument 1, tx_al 0, tx_callv 10 (nf G_X10_chronicled) 0, tx_il 1, tx_il 2, tx_callv 3 (nf G_X3_holderOf) 2, tx_ri]
def R_X10_holds (J : JT) (Q : QT) : Prop := (∀ ls st M, wpl J Q b_X10_holds_0 ls st M → J 0 ls st M)
theorem R_X10_holds_0 {J : JT} {Q : QT} (R : R_X10_holds J Q) {ls : Ls} {st : St} {M : Mem} (h : wpl J Q b_X10_holds_0 ls st M) : J 0 ls st M := R ls st M h
def b_X10_spent_0 : List AT := [tx_al 0, tx_al 0, tx_gm 10 1, tx_il 1, tx_callv 6 (nf G_X6_hasPerson) 1, tx_callv 10 F_X10_needElement 1, tx_al 0, tx_callv 10 (nf G_X10_chronicled) 0, tx_gr 3 1, tx_gr 8 22, tx_il 1, tx_ia, tx_ri]
def R_X10_spent (J : JT) (Q : QT) : Prop := (∀ ls st M, wpl J Q b_X10_spent_0 ls st M → J 0 ls st M)
theorem R_X10_spent_0 {J : JT} {Q : QT} (R : R_X10_spent J Q) {ls : Ls} {st : St} {M : Mem} (h : wpl J Q b_X10_spent_0 ls st M) : J 0 ls st M := R ls st M h
def b_X10_pounds_0 : List AT := [tx_al 0, tx_al 0, tx_gm 10 1, tx_il 1, tx_callv 6 (nf G_X6_hasPerson) 1, tx_callv 10 F_X10_needElement 1, tx_al 0, tx_il 2, tx_call (nf G_X10_isMinute) 1, tx_ifz r_eq 33, tx_il 3, tx_ifz r_eq 29, tx_il 3, tx_ic 1, tx_cmp r_ne 33, tx_fall 29]
def b_X10_pounds_29 : List AT := [tx_ic 1, tx_fall 34]
def b_X10_pounds_33 : List AT := [tx_ic 0, tx_fall 34]
def b_X10_pounds_34 : List AT := [tx_callv 10 F_X10_needArgument 1, tx_il 3, tx_ifz r_ne 53, tx_al 0, tx_callv 10 (nf G_X10_chronicled) 0, tx_il 1, tx_il 2, tx_callv 3 (nf G_X3_poundsWith) 2, tx_fall 62]
def b_X10_pounds_53 : List AT := [tx_al 0, tx_callv 10 (nf G_X10_chronicled) 0, tx_il 1, tx_il 2, tx_callv 3 (nf G_X3_strengthOf) 2, tx_fall 62]
def b_X10_pounds_62 : List AT := [tx_ri]
def R_X10_pounds (J : JT) (Q : QT) : Prop := (∀ ls st M, wpl J Q b_X10_pounds_0 ls st M → J 0 ls st M) ∧ (∀ ls st M, wpl J Q b_X10_pounds_29 ls st M → J 29 ls st M) ∧ (∀ ls st M, wpl J Q b_X10_pounds_33 ls st M → J 33 ls st M) ∧ (∀ ls st M, wpl J Q b_X10_pounds_34 ls st M → J 34 ls st M) ∧ (∀ ls st M, wpl J Q b_X10_pounds_53 ls st M → J 53 ls st M) ∧ (∀ ls st M, wpl J Q b_X10_pounds_62 ls st M → J 62 ls st M)
theorem R_X10_pounds_0 {J : JT} {Q : QT} (R : R_X10_pounds J Q) {ls : Ls} {st : St} {M : Mem} (h : wpl J Q b_X10_pounds_0 ls st M) : J 0 ls st M := R.1 ls st M h
theorem R_X10_pounds_29 {J : JT} {Q : QT} (R : R_X10_pounds J Q) {ls : Ls} {st : St} {M : Mem} (h : wpl J Q b_X10_pounds_29 ls st M) : J 29 ls st M := R.2.1 ls st M h
theorem R_X10_pounds_33 {J : JT} {Q : QT} (R : R_X10_pounds J Q) {ls : Ls} {st : St} {M : Mem} (h : wpl J Q b_X10_pounds_33 ls st M) : J 33 ls st M := R.2.2.1 ls st M h
theorem R_X10_pounds_34 {J : JT} {Q : QT} (R : R_X10_pounds J Q) {ls : Ls} {st : St} {M : Mem} (h : wpl J Q b_X10_pounds_34 ls st M) : J 34 ls st M := R.2.2.2.1 ls st M h
theorem R_X10_pounds_53 {J : JT} {Q : QT} (R : R_X10_pounds J Q) {ls : Ls} {st : St} {M : Mem} (h : wpl J Q b_X10_pounds_53 ls st M) : J 53 ls st M := R.2.2.2.2.1 ls st M h
theorem R_X10_pounds_62 {J : JT} {Q : QT} (R : R_X10_pounds J Q) {ls : Ls} {st : St} {M : Mem} (h : wpl J Q b_X10_pounds_62 ls st M) : J 62 ls st M := R.2.2.2.2.2 ls st M h
def b_X10_passes_0 : List AT := [tx_al 0, tx_il 1, tx_call (nf G_X10_isLaw) 1, tx_callv 10 F_X10_needArgument 1, tx_al 0, tx_callv 10 (nf G_X10_chronicled) 0, tx_il 1, tx_callv 3 (nf G_X3_passedBits) 1, tx_ri]
def R_X10_passes (J : JT) (Q : QT) : Prop := (∀ ls st M, wpl J Q b_X10_passes_0 ls st M → J 0 ls st M)
theorem R_X10_passes_0 {J : JT} {Q : QT} (R : R_X10_passes J Q) {ls : Ls} {st : St} {M : Mem} (h : wpl J Q b_X10_passes_0 ls st M) : J 0 ls st M := R ls st M h
def b_X10_unlike_0 : List AT := [tx_al 0, tx_il 1, tx_call (nf G_X10_isLaw) 1, tx_ifz r_eq 19, tx_il 2, tx_call (nf G_X10_isLaw) 1, tx_ifz r_eq 19, tx_ic 1, tx_fall 20]
def b_X10_unlike_19 : List AT := [tx_ic 0, tx_fall 20]
def b_X10_unlike_20 : List AT := [tx_callv 10 F_X10_needArgument 1, tx_al 0, tx_callv 10 (nf G_X10_chronicled) 0, tx_il 1, tx_callv 3 (nf G_X3_passedBits) 1, tx_al 0, tx_callv 10 (nf G_X10_chronicled) 0, tx_il 2, tx_callv 3 (nf G_X3_passedBits) 1, tx_bin xorI, tx_call (nf G_J6_bitCount_0f7a4) 1, tx_ri]
def R_X10_unlike (J : JT) (Q : QT) : Prop := (∀ ls st M, wpl J Q b_X10_unlike_0 ls st M → J 0 ls st M) ∧ (∀ ls st M, wpl J Q b_X10_unlike_19 ls st M → J 19 ls st M) ∧ (∀ ls st M, wpl J Q b_X10_unlike_20 ls st M → J 20 ls st M)
theorem R_X10_unlike_0 {J : JT} {Q : QT} (R : R_X10_unlike J Q) {ls : Ls} {st : St} {M : Mem} (h : wpl J Q b_X10_unlike_0 ls st M) : J 0 ls st M := R.1 ls st M h
theorem R_X10_unlike_19 {J : JT} {Q : QT} (R : R_X10_unlike J Q) {ls : Ls} {st : St} {M : Mem} (h : wpl J Q b_X10_unlike_19 ls st M) : J 19 ls st M := R.2.1 ls st M h
theorem R_X10_unlike_20 {J : JT} {Q : QT} (R : R_X10_unlike J Q) {ls : Ls} {st : St} {M : Mem} (h : wpl J Q b_X10_unlike_20 ls st M) : J 20 ls st M := R.2.2 ls st M h
def b_X10_motion_0 : List AT := [tx_al 0, tx_al 0, tx_gm 10 1, tx_il 1, tx_callv 6 (nf G_X6_hasMotion) 1, tx_callv 10 F_X10_needElement 1, tx_al 0, tx_il 2, tx_call (nf G_X10_isLaw) 1, tx_ifz r_eq 33, tx_il 3, tx_ifz r_lt 33, tx_il 3, tx_ic 2, tx_cmp r_gt 33, tx_ic 1, tx_fall 34]
def b_X10_motion_33 : List AT := [tx_ic 0, tx_fall 34]
def b_X10_motion_34 : List AT := [tx_callv 10 F_X10_needArgument 1, tx_il 3, tx_ic 2, tx_cmp r_ne 60, tx_al 0, tx_callv 10 (nf G_X10_chronicled) 0, tx_il 1, tx_il 2, tx_callv 3 (nf G_X3_isPassed) 2, tx_ifz r_eq 58, tx_ic 1, tx_fall 59]
def b_X10_motion_58 : List AT := [tx_ic 0, tx_fall 59]
def b_X10_motion_59 : List AT := [tx_ri]
def b_X10_motion_60 : List AT := [tx_al 0, tx_callv 10 (nf G_X10_chronicled) 0, tx_il 1, tx_il 2, tx_il 3, tx_callv 3 (nf G_X3_counted) 3, tx_ri]
def R_X10_motion (J : JT) (Q : QT) : Prop := (∀ ls st M, wpl J Q b_X10_motion_0 ls st M → J 0 ls st M) ∧ (∀ ls st M, wpl J Q b_X10_motion_33 ls st M → J 33 ls st M) ∧ (∀ ls st M, wpl J Q b_X10_motion_34 ls st M → J 34 ls st M) ∧ (∀ ls st M, wpl J Q b_X10_motion_58 ls st M → J 58 ls st M) ∧ (∀ ls st M, wpl J Q b_X10_motion_59 ls st M → J 59 ls st M) ∧ (∀ ls st M, wpl J Q b_X10_motion_60 ls st M → J 60 ls st M)
theorem R_X10_motion_0 {J : JT} {Q : QT} (R : R_X10_motion J Q) {ls : Ls} {st : St} {M : Mem} (h : wpl J Q b_X10_motion_0 ls st M) : J 0 ls st M := R.1 ls st M h
theorem R_X10_motion_33 {J : JT} {Q : QT} (R : R_X10_motion J Q) {ls : Ls} {st : St} {M : Mem} (h : wpl J Q b_X10_motion_33 ls st M) : J 33 ls st M := R.2.1 ls st M h
theorem R_X10_motion_34 {J : JT} {Q : QT} (R : R_X10_motion J Q) {ls : Ls} {st : St} {M : Mem} (h : wpl J Q b_X10_motion_34 ls st M) : J 34 ls st M := R.2.2.1 ls st M h
theorem R_X10_motion_58 {J : JT} {Q : QT} (R : R_X10_motion J Q) {ls : Ls} {st : St} {M : Mem} (h : wpl J Q b_X10_motion_58 ls st M) : J 58 ls st M := R.2.2.2.1 ls st M h
theorem R_X10_motion_59 {J : JT} {Q : QT} (R : R_X10_motion J Q) {ls : Ls} {st : St} {M : Mem} (h : wpl J Q b_X10_motion_59 ls st M) : J 59 ls st M := R.2.2.2.2.1 ls st M h
theorem R_X10_motion_60 {J : JT} {Q : QT} (R : R_X10_motion J Q) {ls : Ls} {st : St} {M : Mem} (h : wpl J Q b_X10_motion_60 ls st M) : J 60 ls st M := R.2.2.2.2.2 ls st M h
theorem P_X10_fault {J : JT} {Q : QT} (R : R_X10_fault J Q) {as : List Vl} {M : Mem} (h : nf G_X10_fault as M Q) : (enL as).length ≤ 1 ∧ J 0 (padL 1 (enL as)) [] M := by
  unfold nf G_X10_fault at h
  split at h
  · rename_i k
    obtain ⟨rfl, s, hM, hQ⟩ := h
    have hpl := hM.pl
    have hk := hpl.1
    have hp := hpl.2.1
    have ho := hpl.2.2
    refine ⟨Nat.le_of_ble_eq_true rfl, R_X10_fault_0 R (?_)⟩
    exact an o0 (an o1 (by rw [show M (0 + 1) 6 = s.2.1 10 9 from hM.2.2.2.2.2.1.2.2.1]; exact hQ M (CF.rf M) hM))
  · exact h.elim
theorem P_X10_told {J : JT} {Q : QT} (R : R_X10_told J Q) {as : List Vl} {M : Mem} (h : F_X10_told as M Q) : (enL as).length ≤ 2 ∧ J 0 (padL 2 (enL as)) [] M := by
  unfold F_X10_told at h
  split at h
  · rename_i k w
    obtain ⟨rfl, s, hM, hQ⟩ := h
    have hpl := hM.pl
    have hk := hpl.1
    have hp := hpl.2.1
    have ho := hpl.2.2
    have no2 : ¬ (0 ≤ w ∧ w ≤ 5) → an_told w s = nay s 2 := fun c => if_pos c
    have ea : (0 ≤ w ∧ w ≤ 5) → an_told w s = _ := fun c2 => if_neg (fun z => z c2)
    have atB : ∀ b : Int, (b = 1 ∧ (0 ≤ w ∧ w ≤ 5)) ∨ (b = 0 ∧ ¬ (0 ≤ w ∧ w ≤ 5)) → J 15 [some (vR 0), some (vI w)] [vI b, vR 0] M := by
      intro b hb
      rcases hb with ⟨rfl, c2⟩ | ⟨rfl, c2⟩
      · refine R_X10_told_15 R (an o0 ⟨rfl, fun _ => ?_, fun z => absurd z (by decide)⟩)
        have ea := ea c2
        have fin : ∀ v : Int, v = (if w < 4 then s.1 10 (w.toNat + 1) else if w = 4 then s.1 10 5 else s.1 10 0) → Q (.inl (some (vI v))) M := fun v hv => c_yes ea hM (CF.rf M) hv hQ
        rcases (show w = 0 ∨ w = 1 ∨ w = 2 ∨ w = 3 ∨ w = 4 ∨ w = 5 by omega) with rfl | rfl | rfl | rfl | rfl | rfl
        · exact bt rfl (R_X10_told_52 R (an o0 (an (pl_ob hk) (fin _ hp.1))))
        · exact bf (by decide) (bt rfl (R_X10_told_60 R (an o0 (an (pl_ob hk) (fin _ hp.2.1)))))
        · exact bf (by decide) (bf (by decide) (bt rfl (R_X10_told_68 R (an o0 (an (pl_ob hk) (fin _ hp.2.2.1))))))
        · exact bf (by decide) (bf (by decide) (bf (by decide) (bt rfl (R_X10_told_76 R (an o0 (an (pl_ob hk) (fin _ hp.2.2.2.1)))))))
        · exact bf (by decide) (bf (by decide) (bf (by decide) (bf (by decide) (bt rfl (R_X10_told_84 R (an o0 (an (lo_ob hM.lo) (fin _ hM.1.2.2.2.1.1))))))))
        · exact bf (by decide) (bf (by decide) (bf (by decide) (bf (by decide) (bf (by decide) (R_X10_told_92 R (an o0 (an (pl_ob hk) (fin _ hp.2.2.2.2.1))))))))
      · exact R_X10_told_15 R (an o0 ⟨rfl, fun z => absurd rfl z, fun _ => c_no (Q := Q) hM 2 (by decide) (no2 c2) (CF.rf M) hQ⟩)
    exact ⟨Nat.le_of_ble_eq_true rfl, R_X10_told_0 R (br (fun (g2 : w < 0) => R_X10_told_14 R (atB 0 (Or.inr ⟨rfl, by omega⟩))) (fun (g2 : ¬ (w < 0)) => br (fun (g1 : 5 < w) => R_X10_told_14 R (atB 0 (Or.inr ⟨rfl, by omega⟩))) (fun (g1 : ¬ (5 < w)) => atB 1 (Or.inl ⟨rfl, by omega⟩))))⟩
  · exact h.elim
theorem P_X10_person {J : JT} {Q : QT} (R : R_X10_person J Q) {as : List Vl} {M : Mem} (h : F_X10_person as M Q) : (enL as).length ≤ 3 ∧ J 0 (padL 3 (enL as)) [] M := by
  unfold F_X10_person at h
  split at h
  · rename_i k p w
    obtain ⟨rfl, s, hM, hQ⟩ := h
    have hpl := hM.pl
    have hk := hpl.1
    have hp := hpl.2.1
    have ho := hpl.2.2
    have no1 : ¬ (0 ≤ p ∧ p < s.1 10 1) → an_person p w s = nay s 1 := fun c => if_pos c
    have no2 : (0 ≤ p ∧ p < s.1 10 1) → ¬ (0 ≤ w ∧ w ≤ 2) → an_person p w s = nay s 2 := fun c1 c2 => (if_neg (fun z => z c1)).trans (if_pos c2)
    have ea : (0 ≤ p ∧ p < s.1 10 1) → (0 ≤ w ∧ w ≤ 2) → an_person p w s = _ := fun c1 c2 => (if_neg (fun z => z c1)).trans (if_neg (fun z => z c2))
    have atB : (0 ≤ p ∧ p < s.1 10 1) → ∀ b : Int, (b = 1 ∧ (0 ≤ w ∧ w ≤ 2)) ∨ (b = 0 ∧ ¬ (0 ≤ w ∧ w ≤ 2)) → J 27 [some (vR 0), some (vI p), some (vI w)] [vI b, vR 0] M := by
      intro c1 b hb
      rcases hb with ⟨rfl, c2⟩ | ⟨rfl, c2⟩
      · refine R_X10_person_27 R (an o0 ⟨rfl, fun _ => ?_, fun z => absurd z (by decide)⟩)
        have ea := ea c1 c2
        have fin : ∀ v : Int, v = (if w = 0 then s.1 4 p.toNat else if w = 1 then s.1 5 p.toNat else ownP s.1 p) → Q (.inl (some (vI v))) M := fun v hv => c_yes ea hM (CF.rf M) hv hQ
        have n1 := nP_le ho
        obtain ⟨q0, q1⟩ := hp.2.2.2.2.2.1 p.toNat (by omega)
        rcases (show w = 0 ∨ w = 1 ∨ w = 2 by omega) with rfl | rfl | rfl
        · exact bt rfl (R_X10_person_56 R (an o0 (an (pl_ob hk) (an (ak_of (pl_1 hk) c1.1 (by omega)) (fin _ q0)))))
        · exact bf (by decide) (bt rfl (R_X10_person_66 R (an o0 (an (pl_ob hk) (an (ak_of (pl_2 hk) c1.1 (by omega)) (fin _ q1))))))
        · exact bf (by decide) (bf (by decide) (R_X10_person_76 R (an o0 (an (pl_ob hk) ⟨s.1, hpl, fin _ rfl⟩))))
      · exact R_X10_person_27 R (an o0 ⟨rfl, fun z => absurd rfl z, fun _ => c_no (Q := Q) hM 2 (by decide) (no2 c1 c2) (CF.rf M) hQ⟩)
    exact ⟨Nat.le_of_ble_eq_true rfl, R_X10_person_0 R (an o0 (an (pl_ob hk) ⟨s.1, hpl, br (fun c1 => an o0 ⟨rfl, fun _ => br (fun (g2 : w < 0) => R_X10_person_26 R (atB c1 0 (Or.inr ⟨rfl, by omega⟩))) (fun (g2 : ¬ (w < 0)) => br (fun (g1 : 2 < w) => R_X10_person_26 R (atB c1 0 (Or.inr ⟨rfl, by omega⟩))) (fun (g1 : ¬ (2 < w)) => atB c1 1 (Or.inl ⟨rfl, by omega⟩))), fun z => absurd z (by decide)⟩) (fun c1 => an o0 ⟨rfl, fun z => absurd rfl z, fun _ => c_no (Q := Q) hM 1 (by decide) (no1 c1) (CF.rf M) hQ⟩)⟩))⟩
  · exact h.elim
theorem P_X10_thing {J : JT} {Q : QT} (R : R_X10_thing J Q) {as : List Vl} {M : Mem} (h : F_X10_thing as M Q) : (enL as).length ≤ 3 ∧ J 0 (padL 3 (enL as)) [] M := by
  unfold F_X10_thing at h
  split at h
  · rename_i k t w
    obtain ⟨rfl, s, hM, hQ⟩ := h
    have hpl := hM.pl
    have hk := hpl.1
    have hp := hpl.2.1
    have ho := hpl.2.2
    have no1 : ¬ (0 ≤ t ∧ t < s.1 10 2) → an_thing t w s = nay s 1 := fun c => if_pos c
    have no2 : (0 ≤ t ∧ t < s.1 10 2) → ¬ (0 ≤ w ∧ w ≤ 3) → an_thing t w s = nay s 2 := fun c1 c2 => (if_neg (fun z => z c1)).trans (if_pos c2)
    have ea : (0 ≤ t ∧ t < s.1 10 2) → (0 ≤ w ∧ w ≤ 3) → an_thing t w s = _ := fun c1 c2 => (if_neg (fun z => z c1)).trans (if_neg (fun z => z c2))
    have atB : (0 ≤ t ∧ t < s.1 10 2) → ∀ b : Int, (b = 1 ∧ (0 ≤ w ∧ w ≤ 3)) ∨ (b = 0 ∧ ¬ (0 ≤ w ∧ w ≤ 3)) → J 27 [some (vR 0), some (vI t), some (vI w)] [vI b, vR 0] M := by
      intro c1 b hb
      rcases hb with ⟨rfl, c2⟩ | ⟨rfl, c2⟩
      · refine R_X10_thing_27 R (an o0 ⟨rfl, fun _ => ?_, fun z => absurd z (by decide)⟩)
        have ea := ea c1 c2
        have fin : ∀ (M2 : Mem) (v : Int), Cls M2 s → CF M M2 → v = (if w < 3 then s.1 w.toNat t.toNat else thC s.1 (-1) t.toNat) → Q (.inl (some (vI v))) M2 := fun M2 v h2 cf hv => c_yes ea h2 cf hv hQ
        have n1 := nT_le ho
        obtain ⟨q0, q1, q2, q3⟩ := hp.2.2.2.2.2.2.1 t.toNat (by omega)
        rcases (show w = 0 ∨ w = 1 ∨ w = 2 ∨ w = 3 by omega) with rfl | rfl | rfl | rfl
        · exact bt rfl (R_X10_thing_56 R (an o0 (an (pl_ob hk) (an (ak_of (pl_3 hk) c1.1 (by omega)) (fin M _ hM (CF.rf M) q0)))))
        · exact bf (by decide) (bt rfl (R_X10_thing_66 R (an o0 (an (pl_ob hk) (an (ak_of (pl_4 hk) c1.1 (by omega)) (fin M _ hM (CF.rf M) q1))))))
        · exact bf (by decide) (bf (by decide) (bt rfl (R_X10_thing_76 R (an o0 (an (pl_ob hk) (an (ak_of (pl_5 hk) c1.1 (by omega)) (fin M _ hM (CF.rf M) q2)))))))
        · exact bf (by decide) (bf (by decide) (bf (by decide) (R_X10_thing_86 R (an o0 (use_chr hM (fun M2 h2 cf hc _ => an o41 (an o42 (an (ak_of (show SH 60 = (1, 14, 0, 0) from rfl) c1.1 (by omega)) (fin M2 _ h2 cf (hc.2.2.2.2.1 t.toNat (by omega)))))))))))
      · exact R_X10_thing_27 R (an o0 ⟨rfl, fun z => absurd rfl z, fun _ => c_no (Q := Q) hM 2 (by decide) (no2 c1 c2) (CF.rf M) hQ⟩)
    exact ⟨Nat.le_of_ble_eq_true rfl, R_X10_thing_0 R (an o0 (an (pl_ob hk) ⟨s.1, hpl, br (fun c1 => an o0 ⟨rfl, fun _ => br (fun (g2 : w < 0) => R_X10_thing_26 R (atB c1 0 (Or.inr ⟨rfl, by omega⟩))) (fun (g2 : ¬ (w < 0)) => br (fun (g1 : 3 < w) => R_X10_thing_26 R (atB c1 0 (Or.inr ⟨rfl, by omega⟩))) (fun (g1 : ¬ (3 < w)) => atB c1 1 (Or.inl ⟨rfl, by omega⟩))), fun z => absurd z (by decide)⟩) (fun c1 => an o0 ⟨rfl, fun z => absurd rfl z, fun _ => c_no (Q := Q) hM 1 (by decide) (no1 c1) (CF.rf M) hQ⟩)⟩))⟩
  · exact h.elim
theorem P_X10_holds {J : JT} {Q : QT} (R : R_X10_holds J Q) {as : List Vl} {M : Mem} (h : F_X10_holds as M Q) : (enL as).length ≤ 3 ∧ J 0 (padL 3 (enL as)) [] M := by
  unfold F_X10_holds at h
  split at h
  · rename_i k t m
    obtain ⟨rfl, s, hM, hQ⟩ := h
    have hpl := hM.pl
    have hk := hpl.1
    have hp := hpl.2.1
    have ho := hpl.2.2
    have no1 : ¬ (0 ≤ t ∧ t < s.1 10 2) → an_holds t m s = nay s 1 := fun c => if_pos c
    have no2 : (0 ≤ t ∧ t < s.1 10 2) → ¬ (0 ≤ m ∧ m < 120) → an_holds t m s = nay s 2 := fun c1 c2 => (if_neg (fun z => z c1)).trans (if_pos c2)
    have ea : (0 ≤ t ∧ t < s.1 10 2) → (0 ≤ m ∧ m < 120) → an_holds t m s = _ := fun c1 c2 => (if_neg (fun z => z c1)).trans (if_neg (fun z => z c2))
    refine ⟨Nat.le_of_ble_eq_true rfl, R_X10_holds_0 R (an o0 (an (pl_ob hk) ⟨s.1, hpl, br (fun c1 => an o0 ⟨rfl, fun _ => br (fun c2 => an o0 ⟨rfl, fun _ => ?_, fun z => absurd z (by decide)⟩) (fun c2 => an o0 ⟨rfl, fun z => absurd rfl z, fun _ => c_no (Q := Q) hM 2 (by decide) (no2 c1 c2) (CF.rf M) hQ⟩), fun z => absurd z (by decide)⟩) (fun c1 => an o0 ⟨rfl, fun z => absurd rfl z, fun _ => c_no (Q := Q) hM 1 (by decide) (no1 c1) (CF.rf M) hQ⟩)⟩))⟩
    have ea := ea c1 c2
    have n1 := nT_le ho
    exact an o0 (use_chr hM (fun M2 h2 cf hc _ => an o41 ⟨⟨rfl, c1.1, by omega, c2.1, c2.2⟩, c_yes ea h2 cf (hc.2.1 m.toNat t.toNat (by omega) (by omega)) hQ⟩))
  · exact h.elim
theorem P_X10_spent {J : JT} {Q : QT} (R : R_X10_spent J Q) {as : List Vl} {M : Mem} (h : F_X10_spent as M Q) : (enL as).length ≤ 2 ∧ J 0 (padL 2 (enL as)) [] M := by
  unfold F_X10_spent at h
  split at h
  · rename_i k p
    obtain ⟨rfl, s, hM, hQ⟩ := h
    have hpl := hM.pl
    have hk := hpl.1
    have hp := hpl.2.1
    have ho := hpl.2.2
    have no1 : ¬ (0 ≤ p ∧ p < s.1 10 1) → an_spent p s = nay s 1 := fun c => if_pos c
    have ea : (0 ≤ p ∧ p < s.1 10 1) → an_spent p s = _ := fun c1 => if_neg (fun z => z c1)
    refine ⟨Nat.le_of_ble_eq_true rfl, R_X10_spent_0 R (an o0 (an (pl_ob hk) ⟨s.1, hpl, br (fun c1 => an o0 ⟨rfl, fun _ => ?_, fun z => absurd z (by decide)⟩) (fun c1 => an o0 ⟨rfl, fun z => absurd rfl z, fun _ => c_no (Q := Q) hM 1 (by decide) (no1 c1) (CF.rf M) hQ⟩)⟩))⟩
    have ea := ea c1
    have n1 := nP_le ho
    exact an o0 (use_chr hM (fun M2 h2 cf hc _ => an o41 (an o42 (an (ak_of (show SH 64 = (1, 10, 0, 0) from rfl) c1.1 (by omega)) (c_yes ea h2 cf (hc.2.2.2.2.2 p.toNat (by omega)) hQ)))))
  · exact h.elim
theorem P_X10_pounds {J : JT} {Q : QT} (R : R_X10_pounds J Q) {as : List Vl} {M : Mem} (h : F_X10_pounds as M Q) : (enL as).length ≤ 4 ∧ J 0 (padL 4 (enL as)) [] M := by
  unfold F_X10_pounds at h
  split at h
  · rename_i k p m w
    obtain ⟨rfl, s, hM, hQ⟩ := h
    have hpl := hM.pl
    have hk := hpl.1
    have hp := hpl.2.1
    have ho := hpl.2.2
    have no1 : ¬ (0 ≤ p ∧ p < s.1 10 1) → an_pounds p m w s = nay s 1 := fun c => if_pos c
    have no2 : (0 ≤ p ∧ p < s.1 10 1) → ¬ ((0 ≤ m ∧ m < 120) ∧ (w = 0 ∨ w = 1)) → an_pounds p m w s = nay s 2 := fun c1 c2 => (if_neg (fun z => z c1)).trans (if_pos c2)
    have ea : (0 ≤ p ∧ p < s.1 10 1) → ((0 ≤ m ∧ m < 120) ∧ (w = 0 ∨ w = 1)) → an_pounds p m w s = _ := fun c1 c2 => (if_neg (fun z => z c1)).trans (if_neg (fun z => z c2))
    have atB : (0 ≤ p ∧ p < s.1 10 1) → ∀ b : Int, (b = 1 ∧ ((0 ≤ m ∧ m < 120) ∧ (w = 0 ∨ w = 1))) ∨ (b = 0 ∧ ¬ ((0 ≤ m ∧ m < 120) ∧ (w = 0 ∨ w = 1))) → J 34 [some (vR 0), some (vI p), some (vI m), some (vI w)] [vI b, vR 0] M := by
      intro c1 b hb
      rcases hb with ⟨rfl, c2⟩ | ⟨rfl, c2⟩
      · refine R_X10_pounds_34 R (an o0 ⟨rfl, fun _ => ?_, fun z => absurd z (by decide)⟩)
        have ea := ea c1 c2
        have n1 := nP_le ho
        have pn : ((p.toNat : Nat) : Int) = p := by omega
        have fin : ∀ (M2 : Mem) (v : Int), Cls M2 s → CF M M2 → v = (if w = 0 then ldF s.1 (run s.1 (-1) (m.toNat + 1)) p else run s.1 (-1) (m.toNat + 1) 2 p.toNat) → J 62 [some (vR 0), some (vI p), some (vI m), some (vI w)] [vI v] M2 := fun M2 v h2 cf hv => R_X10_pounds_62 R (c_yes ea h2 cf hv hQ)
        refine br (fun g => R_X10_pounds_53 R (an o0 (use_chr hM (fun M2 h2 cf hc _ => an o41 ⟨⟨rfl, c1.1, by omega, c2.1.1, c2.1.2⟩, fin M2 _ h2 cf ?_⟩)))) (fun g => an o0 (use_chr hM (fun M2 h2 cf hc _ => an o41 ⟨s.1, hc.1, ⟨rfl, c2.1.1, c2.1.2⟩, fin M2 _ h2 cf ?_⟩)))
        · have g : ¬ w = 0 := g
          rw [if_neg g]
          exact hc.2.2.1 m.toNat p.toNat (by omega) (by omega)
        · have g : w = 0 := Classical.not_not.mp g
          rw [if_pos g]
          unfold ldF
          refine sumN_cong (fun t ht => ?_)
          rw [hc.2.1 m.toNat t (by omega) ht]
      · exact R_X10_pounds_34 R (an o0 ⟨rfl, fun z => absurd rfl z, fun _ => c_no (Q := Q) hM 2 (by decide) (no2 c1 c2) (CF.rf M) hQ⟩)
    exact ⟨Nat.le_of_ble_eq_true rfl, R_X10_pounds_0 R (an o0 (an (pl_ob hk) ⟨s.1, hpl, br (fun c1 => an o0 ⟨rfl, fun _ => br (fun g3 => bf (by decide) (br (fun (g2 : w = 0) => R_X10_pounds_29 R (atB c1 1 (Or.inl ⟨rfl, by omega⟩))) (fun (g2 : ¬ (w = 0)) => br (fun (g1 : ¬ w = 1) => R_X10_pounds_33 R (atB c1 0 (Or.inr ⟨rfl, by omega⟩))) (fun (g1 : ¬ (¬ w = 1)) => R_X10_pounds_29 R (atB c1 1 (Or.inl ⟨rfl, by omega⟩)))))) (fun g3 => bt rfl (R_X10_pounds_33 R (atB c1 0 (Or.inr ⟨rfl, by omega⟩)))), fun z => absurd z (by decide)⟩) (fun c1 => an o0 ⟨rfl, fun z => absurd rfl z, fun _ => c_no (Q := Q) hM 1 (by decide) (no1 c1) (CF.rf M) hQ⟩)⟩))⟩
  · exact h.elim
theorem P_X10_passes {J : JT} {Q : QT} (R : R_X10_passes J Q) {as : List Vl} {M : Mem} (h : F_X10_passes as M Q) : (enL as).length ≤ 2 ∧ J 0 (padL 2 (enL as)) [] M := by
  unfold F_X10_passes at h
  split at h
  · rename_i k law
    obtain ⟨rfl, s, hM, hQ⟩ := h
    have hpl := hM.pl
    have hk := hpl.1
    have hp := hpl.2.1
    have ho := hpl.2.2
    have no2 : ¬ (0 ≤ law ∧ law < 3) → an_passes law s = nay s 2 := fun c => if_pos c
    have ea : (0 ≤ law ∧ law < 3) → an_passes law s = _ := fun c2 => if_neg (fun z => z c2)
    refine ⟨Nat.le_of_ble_eq_true rfl, R_X10_passes_0 R (br (fun c2 => an o0 ⟨rfl, fun _ => ?_, fun z => absurd z (by decide)⟩) (fun c2 => an o0 ⟨rfl, fun z => absurd rfl z, fun _ => c_no (Q := Q) hM 2 (by decide) (no2 c2) (CF.rf M) hQ⟩))⟩
    have ea := ea c2
    refine an o0 (use_chr hM (fun M2 h2 cf hc _ => an o41 ⟨s.1, hc.1, ⟨rfl, c2.1, c2.2⟩, ?_⟩))
    rw [chr_ps hc c2.1 c2.2]
    exact c_yes ea h2 cf rfl hQ
  · exact h.elim
theorem P_X10_unlike {J : JT} {Q : QT} (R : R_X10_unlike J Q) {as : List Vl} {M : Mem} (h : F_X10_unlike as M Q) : (enL as).length ≤ 3 ∧ J 0 (padL 3 (enL as)) [] M := by
  unfold F_X10_unlike at h
  split at h
  · rename_i k law ot
    obtain ⟨rfl, s, hM, hQ⟩ := h
    have hpl := hM.pl
    have hk := hpl.1
    have hp := hpl.2.1
    have ho := hpl.2.2
    have no2 : ¬ ((0 ≤ law ∧ law < 3) ∧ (0 ≤ ot ∧ ot < 3)) → an_unlike law ot s = nay s 2 := fun c => if_pos c
    have ea : ((0 ≤ law ∧ law < 3) ∧ (0 ≤ ot ∧ ot < 3)) → an_unlike law ot s = _ := fun c2 => if_neg (fun z => z c2)
    have atB : ∀ b : Int, (b = 1 ∧ ((0 ≤ law ∧ law < 3) ∧ (0 ≤ ot ∧ ot < 3))) ∨ (b = 0 ∧ ¬ ((0 ≤ law ∧ law < 3) ∧ (0 ≤ ot ∧ ot < 3))) → J 20 [some (vR 0), some (vI law), some (vI ot)] [vI b, vR 0] M := by
      intro b hb
      rcases hb with ⟨rfl, c2⟩ | ⟨rfl, c2⟩
      · refine R_X10_unlike_20 R (an o0 ⟨rfl, fun _ => ?_, fun z => absurd z (by decide)⟩)
        have ea := ea c2
        refine an o0 (use_chr hM (fun M2 h2 cf hc _ => an o41 ⟨s.1, hc.1, ⟨rfl, c2.1.1, c2.1.2⟩, ?_⟩))
        rw [chr_ps hc c2.1.1 c2.1.2]
        refine an o0 (use_chr h2 (fun M3 h3 cf3 hc3 _ => an o41 ⟨s.1, hc3.1, ⟨rfl, c2.2.1, c2.2.2⟩, ?_⟩))
        rw [chr_ps hc3 c2.2.1 c2.2.2]
        have a1 := psN_lt ho (-1) law
        have a2 := psN_lt ho (-1) ot
        have a3 : psN s.1 (-1) law ^^^ psN s.1 (-1) ot < 256 := xor_lt (n := 8) a1 a2
        show (0 ≤ xorI _ _ ∧ xorI _ _ < 16384) ∧ _
        rw [xorI_n (by omega) (by omega)]
        exact ⟨⟨by omega, by omega⟩, c_yes ea h3 (fun u v hu => (cf3 u v hu).trans (cf u v hu)) rfl hQ⟩
      · exact R_X10_unlike_20 R (an o0 ⟨rfl, fun z => absurd rfl z, fun _ => c_no (Q := Q) hM 2 (by decide) (no2 c2) (CF.rf M) hQ⟩)
    exact ⟨Nat.le_of_ble_eq_true rfl, R_X10_unlike_0 R (br (fun g2 => bf (by decide) (br (fun g1 => bf (by decide) (atB 1 (Or.inl ⟨rfl, by omega⟩))) (fun g1 => bt rfl (R_X10_unlike_19 R (atB 0 (Or.inr ⟨rfl, by omega⟩)))))) (fun g2 => bt rfl (R_X10_unlike_19 R (atB 0 (Or.inr ⟨rfl, by omega⟩)))))⟩
  · exact h.elim
theorem P_X10_motion {J : JT} {Q : QT} (R : R_X10_motion J Q) {as : List Vl} {M : Mem} (h : F_X10_motion as M Q) : (enL as).length ≤ 4 ∧ J 0 (padL 4 (enL as)) [] M := by
  unfold F_X10_motion at h
  split at h
  · rename_i k m law w
    obtain ⟨rfl, s, hM, hQ⟩ := h
    have hpl := hM.pl
    have hk := hpl.1
    have hp := hpl.2.1
    have ho := hpl.2.2
    have no1 : ¬ (0 ≤ m ∧ m < s.1 10 4) → an_motion m law w s = nay s 1 := fun c => if_pos c
    have no2 : (0 ≤ m ∧ m < s.1 10 4) → ¬ ((0 ≤ law ∧ law < 3) ∧ (0 ≤ w ∧ w ≤ 2)) → an_motion m law w s = nay s 2 := fun c1 c2 => (if_neg (fun z => z c1)).trans (if_pos c2)
    have ea : (0 ≤ m ∧ m < s.1 10 4) → ((0 ≤ law ∧ law < 3) ∧ (0 ≤ w ∧ w ≤ 2)) → an_motion m law w s = _ := fun c1 c2 => (if_neg (fun z => z c1)).trans (if_neg (fun z => z c2))
    have atB : (0 ≤ m ∧ m < s.1 10 4) → ∀ b : Int, (b = 1 ∧ ((0 ≤ law ∧ law < 3) ∧ (0 ≤ w ∧ w ≤ 2))) ∨ (b = 0 ∧ ¬ ((0 ≤ law ∧ law < 3) ∧ (0 ≤ w ∧ w ≤ 2))) → J 34 [some (vR 0), some (vI m), some (vI law), some (vI w)] [vI b, vR 0] M := by
      intro c1 b hb
      rcases hb with ⟨rfl, c2⟩ | ⟨rfl, c2⟩
      · refine R_X10_motion_34 R (an o0 ⟨rfl, fun _ => ?_, fun z => absurd z (by decide)⟩)
        have ea := ea c1 c2
        have n1 := nM_le ho
        have le : ((law.toNat : Nat) : Int) = law := by omega
        have fin : ∀ (M2 : Mem) (v : Int), Cls M2 s → CF M M2 → v = (if w = 2 then (if psB s.1 (-1) law m.toNat = true then 1 else 0) else cnM s.1 m.toNat law w.toNat) → Q (.inl (some (vI v))) M2 := fun M2 v h2 cf hv => c_yes ea h2 cf hv hQ
        refine br (fun g => R_X10_motion_60 R (an o0 (use_chr hM (fun M2 h2 cf hc _ => an o41 ⟨⟨rfl, c1.1, by omega, c2.1.1, c2.1.2, c2.2.1, ?_⟩, fin M2 _ h2 cf ?_⟩)))) (fun g => an o0 (use_chr hM (fun M2 h2 cf hc _ => an o41 ⟨⟨rfl, c1.1, by omega, c2.1.1, c2.1.2⟩, ?_⟩)))
        · have g : ¬ w = 2 := g
          omega
        · have g : ¬ w = 2 := g
          have := hc.2.2.2.1 m.toNat law.toNat w.toNat (by omega) (by omega) (by omega)
          rw [le] at this
          rw [if_neg g]
          exact this
        · have g : w = 2 := Classical.not_not.mp g
          have a0 := hc.2.2.2.1 m.toNat law.toNat 0 (by omega) (by omega) (by decide)
          have a1 := hc.2.2.2.1 m.toNat law.toNat 1 (by omega) (by omega) (by decide)
          rw [le] at a0 a1
          rw [a0, a1]
          have pe : psB s.1 (-1) law m.toNat = decide (cnM s.1 m.toNat law 1 < cnM s.1 m.toNat law 0) := rfl
          refine br (fun d => bf (by decide) (R_X10_motion_59 R (fin M2 1 h2 cf ?_))) (fun d => bt rfl (R_X10_motion_58 R (R_X10_motion_59 R (fin M2 0 h2 cf ?_))))
          · rw [if_pos g, pe, decide_eq_true d, if_pos rfl]
          · rw [if_pos g, pe, decide_eq_false d, if_neg (by decide)]
      · exact R_X10_motion_34 R (an o0 ⟨rfl, fun z => absurd rfl z, fun _ => c_no (Q := Q) hM 2 (by decide) (no2 c1 c2) (CF.rf M) hQ⟩)
    exact ⟨Nat.le_of_ble_eq_true rfl, R_X10_motion_0 R (an o0 (an (pl_ob hk) ⟨s.1, hpl, br (fun c1 => an o0 ⟨rfl, fun _ => br (fun g3 => bf (by decide) (br (fun (g2 : w < 0) => R_X10_motion_33 R (atB c1 0 (Or.inr ⟨rfl, by omega⟩))) (fun (g2 : ¬ (w < 0)) => br (fun (g1 : 2 < w) => R_X10_motion_33 R (atB c1 0 (Or.inr ⟨rfl, by omega⟩))) (fun (g1 : ¬ (2 < w)) => atB c1 1 (Or.inl ⟨rfl, by omega⟩))))) (fun g3 => bt rfl (R_X10_motion_33 R (atB c1 0 (Or.inr ⟨rfl, by omega⟩)))), fun z => absurd z (by decide)⟩) (fun c1 => an o0 ⟨rfl, fun z => absurd rfl z, fun _ => c_no (Q := Q) hM 1 (by decide) (no1 c1) (CF.rf M) hQ⟩)⟩))⟩

  · exact h.elim