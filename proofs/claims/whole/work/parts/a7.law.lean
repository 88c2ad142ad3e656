/-! the law's calls of the class -/
/-- where the two exceptions are caught -/
def hT (a b : Option Nat) : Nat → Option Nat
  | 1 => a
  | 2 => b
  | _ => none
def LFm (M M' : Mem) : Prop := ∀ u v, 159 ≤ u → u ≠ 336 → M' u v = M u v
def lS (cd : Nat → Int) (ans : AS → An) (M : Mem) (Q : Option Vl → Mem → Prop) : Prop := ∃ s, Cls M s ∧ ∀ M', LFm M M' → Cls M' (ans s).2.2 → ((ans s).1 = 0 → M' 336 0 = (ans s).2.1) → Q (some (vI (cd (ans s).1))) M'
theorem sh336 : SH 336 = (4, 1, 0, 0) := rfl
theorem cq_one {a : An} {Q : QT} {M' : Mem} (e0 : Nat) (h : a.1 = 0 ∨ a.1 = e0) (h0 : a.1 = 0 → Q (.inl (some (vI a.2.1))) M') (h1 : a.1 = e0 → Q (.inr e0) M') : cQ a Q M' := by
  unfold cQ
  by_cases z : a.1 = 0
  · rw [if_pos z]; exact h0 z
  · rw [if_neg z]
    have := h.resolve_left z
    rw [this]
    exact h1 this
theorem cq_two {a : An} {Q : QT} {M' : Mem} (h : a.1 = 0 ∨ a.1 = 1 ∨ a.1 = 2) (h0 : a.1 = 0 → Q (.inl (some (vI a.2.1))) M') (h1 : a.1 = 1 → Q (.inr 1) M') (h2 : a.1 = 2 → Q (.inr 2) M') : cQ a Q M' := by
  unfold cQ
  by_cases z : a.1 = 0
  · rw [if_pos z]; exact h0 z
  · rw [if_neg z]
    rcases h.resolve_left z with q | q
    · rw [q]; exact h1 q
    · rw [q]; exact h2 q
theorem Cls.put {M : Mem} {s : AS} {v : Int} (h : Cls M s) : Cls (up M 336 0 v) s := by
  obtain ⟨c1, c2, c3, ⟨b1, b2⟩, ⟨i1, i2, i3⟩, ⟨t1, t2, t3, t4⟩, ⟨r1, r2⟩, k1, k2⟩ := h
  have e : ∀ u v', u < 159 → up M 336 0 v u v' = M u v' := fun u v' hu => up_ne (by omega)
  have n3 : nI3 s ≤ 3 := by have := i1.1; unfold nI3; omega
  exact ⟨c1.kept (fun u v a _ _ => e u v (by omega)), by rw [e _ _ (by omega), e _ _ (by omega)]; exact c2, by rw [e _ _ (by omega), e _ _ (by omega)]; exact c3, ⟨b1.kept (fun u v a b => e u v (by omega)), b2⟩, ⟨i1, by rw [e _ _ (by omega)]; exact i2, fun i hi => ⟨(i3 i hi).1.kept (fun u v a b => e u v (by omega)), (i3 i hi).2.kept (fun u v a b => e u v (by omega))⟩⟩, ⟨t1, by rw [e _ _ (by omega)]; exact t2, by rw [e _ _ (by omega)]; exact t3, fun i hi => by rw [e _ _ (by omega)]; exact t4 i hi⟩, ⟨by rw [e _ _ (by omega)]; exact r1, by rw [e _ _ (by omega)]; exact r2⟩, fun z => (k1 (by rw [e _ _ (by omega)] at z; exact z)).kept (fun u v a b => e u v (by omega)) (e _ _ (by omega)) (e _ _ (by omega)), fun z => (k2 (by rw [e _ _ (by omega)] at z; exact z)).kept (fun v => e _ _ (by omega))⟩
theorem l_yes {M M' : Mem} {a : An} {cd : Nat → Int} {Q : QT} (hc : cd 0 = 0) (z : a.1 = 0) (cf : CF M M') (h : Cls M' a.2.2) (hQ : ∀ M', LFm M M' → Cls M' a.2.2 → (a.1 = 0 → M' 336 0 = a.2.1) → Q (.inl (some (vI (cd a.1)))) M') {v : Int} (hv : v = a.2.1) : Q (.inl (some (vI 0))) (up M' 336 0 v) := by
  have := hQ (up M' 336 0 v) (fun u v h1 h2 => (up_ne (by omega)).trans (cf u v h1)) h.put (fun _ => up_eq.trans hv)
  rw [z, hc] at this
  exact this
theorem l_no {M M' : Mem} {a : An} {cd : Nat → Int} {Q : QT} {e : Nat} (he : ¬ e = 0) (z : a.1 = e) (cf : CF M M') (h : Cls M' a.2.2) (hQ : ∀ M', LFm M M' → Cls M' a.2.2 → (a.1 = 0 → M' 336 0 = a.2.1) → Q (.inl (some (vI (cd a.1)))) M') {v : Int} (hv : cd e = v) : Q (.inl (some (vI v))) M' := by
  have := hQ M' (fun u v h1 h2 => cf u v h1) h (fun y => absurd (z.symm.trans y) he)
  rw [z, hv] at this
  exact this
def G_L_bring : FN := fun as M Q => match as with
  | [.inr (.inl k), .inl x1, .inl x2, .inr (.inl o)] => (k = 0 ∧ o = 336) ∧ lS cd2 (an_bring x1 x2) M Q
  | _ => False
def G_L_decides : FN := fun as M Q => match as with
  | [.inr (.inl k), .inl x1, .inr (.inl o)] => (k = 0 ∧ o = 336) ∧ lS cd1 (an_decides x1) M Q
  | _ => False
def G_L_hall : FN := fun as M Q => match as with
  | [.inr (.inl k), .inl x1, .inr (.inl o)] => (k = 0 ∧ o = 336) ∧ lS cd1 (an_hall x1) M Q
  | _ => False
def G_L_holds : FN := fun as M Q => match as with
  | [.inr (.inl k), .inl x1, .inl x2, .inr (.inl o)] => (k = 0 ∧ o = 336) ∧ lS cd2 (an_holds x1 x2) M Q
  | _ => False
def G_L_hollow : FN := fun as M Q => match as with
  | [.inr (.inl k), .inl x1, .inr (.inl o)] => (k = 0 ∧ o = 336) ∧ lS cd1 (an_hollow x1) M Q
  | _ => False
def G_L_least : FN := fun as M Q => match as with
  | [.inr (.inl k), .inl x1, .inl x2, .inr (.inl o)] => (k = 0 ∧ o = 336) ∧ lS cd2 (an_least x1 x2) M Q
  | _ => False
def G_L_lend : FN := fun as M Q => match as with
  | [.inr (.inl k), .inl x1, .inr (.inl o)] => (k = 0 ∧ o = 336) ∧ lS cd1 (an_lend x1) M Q
  | _ => False
def G_L_motion : FN := fun as M Q => match as with
  | [.inr (.inl k), .inl x1, .inl x2, .inl x3, .inr (.inl o)] => (k = 0 ∧ o = 336) ∧ lS cd2 (an_motion x1 x2 x3) M Q
  | _ => False
def G_L_owed : FN := fun as M Q => match as with
  | [.inr (.inl k), .inl x1, .inl x2, .inl x3, .inr (.inl o)] => (k = 0 ∧ o = 336) ∧ lS cd1 (an_owed x1 x2 x3) M Q
  | _ => False
def G_L_passes : FN := fun as M Q => match as with
  | [.inr (.inl k), .inl x1, .inr (.inl o)] => (k = 0 ∧ o = 336) ∧ lS cd1 (an_passes x1) M Q
  | _ => False
def G_L_person : FN := fun as M Q => match as with
  | [.inr (.inl k), .inl x1, .inl x2, .inr (.inl o)] => (k = 0 ∧ o = 336) ∧ lS cd2 (an_person x1 x2) M Q
  | _ => False
def G_L_pounds : FN := fun as M Q => match as with
  | [.inr (.inl k), .inl x1, .inl x2, .inl x3, .inr (.inl o)] => (k = 0 ∧ o = 336) ∧ lS cd2 (an_pounds x1 x2 x3) M Q
  | _ => False
def G_L_power : FN := fun as M Q => match as with
  | [.inr (.inl k), .inl x1, .inr (.inl o)] => (k = 0 ∧ o = 336) ∧ lS cd1 (an_power x1) M Q
  | _ => False
def G_L_speech : FN := fun as M Q => match as with
  | [.inr (.inl k), .inl x1, .inl x2, .inr (.inl o)] => (k = 0 ∧ o = 336) ∧ lS cd2 (an_speech x1 x2) M Q
  | _ => False
def G_L_spent : FN := fun as M Q => match as with
  | [.inr (.inl k), .inl x1, .inr (.inl o)] => (k = 0 ∧ o = 336) ∧ lS cd1 (an_spent x1) M Q
  | _ => False
def G_L_sums : FN := fun as M Q => match as with
  | [.inr (.inl k), .inl x1, .inl x2, .inr (.inl o)] => (k = 0 ∧ o = 336) ∧ lS cd1 (an_sums x1 x2) M Q
  | _ => False
def G_L_thing : FN := fun as M Q => match as with
  | [.inr (.inl k), .inl x1, .inl x2, .inr (.inl o)] => (k = 0 ∧ o = 336) ∧ lS cd2 (an_thing x1 x2) M Q
  | _ => False
def G_L_tired : FN := fun as M Q => match as with
  | [.inr (.inl k), .inl x1, .inr (.inl o)] => (k = 0 ∧ o = 336) ∧ lS cd1 (an_tired x1) M Q
  | _ => False
def G_L_told : FN := fun as M Q => match as with
  | [.inr (.inl k), .inl x1, .inr (.inl o)] => (k = 0 ∧ o = 336) ∧ lS cd1 (an_told x1) M Q
  | _ => False
def G_L_unlike : FN := fun as M Q => match as with
  | [.inr (.inl k), .inl x1, .inl x2, .inr (.inl o)] => (k = 0 ∧ o = 336) ∧ lS cd1 (an_unlike x1 x2) M Q
  | _ => False
def G_L_vote : FN := fun as M Q => match as with
  | [.inr (.inl k), .inl x1, .inl x2, .inl x3, .inr (.inl o)] => (k = 0 ∧ o = 336) ∧ lS cd1 (an_vote x1 x2 x3) M Q
  | _ => False
def G_L_wins : FN := fun as M Q => match as with
  | [.inr (.inl k), .inl x1, .inr (.inl o)] => (k = 0 ∧ o = 336) ∧ lS cd1 (an_wins x1) M Q
  | _ => False
def b_L_bring_0 : List AT := [tx_al 3, tx_ic 0, tx_al 0, tx_il 1, tx_il 2, tx_callvh (hT (some 13) (some 17)) 10 F_X10_bring 2, tx_i2l, tx_lax, tx_fall 21]
def b_L_bring_13 : List AT := [tx_as 4, tx_ic 1, tx_ri]
def b_L_bring_17 : List AT := [tx_as 4, tx_ic 2, tx_ri]
def b_L_bring_21 : List AT := [tx_ic 0, tx_ri]
def R_L_bring (J : JT) (Q : QT) : Prop := (∀ ls st M, wpl J Q b_L_bring_0 ls st M → J 0 ls st M) ∧ (∀ ls st M, wpl J Q b_L_bring_13 ls st M → J 13 ls st M) ∧ (∀ ls st M, wpl J Q b_L_bring_17 ls st M → J 17 ls st M) ∧ (∀ ls st M, wpl J Q b_L_bring_21 ls st M → J 21 ls st M)
theorem R_L_bring_0 {J : JT} {Q : QT} (R : R_L_bring J Q) {ls : Ls} {st : St} {M : Mem} (h : wpl J Q b_L_bring_0 ls st M) : J 0 ls st M := R.1 ls st M h
theorem R_L_bring_13 {J : JT} {Q : QT} (R : R_L_bring J Q) {ls : Ls} {st : St} {M : Mem} (h : wpl J Q b_L_bring_13 ls st M) : J 13 ls st M := R.2.1 ls st M h
theorem R_L_bring_17 {J : JT} {Q : QT} (R : R_L_bring J Q) {ls : Ls} {st : St} {M : Mem} (h : wpl J Q b_L_bring_17 ls st M) : J 17 ls st M := R.2.2.1 ls st M h
theorem R_L_bring_21 {J : JT} {Q : QT} (R : R_L_bring J Q) {ls : Ls} {st : St} {M : Mem} (h : wpl J Q b_L_bring_21 ls st M) : J 21 ls st M := R.2.2.2 ls st M h
def b_L_decides_0 : List AT := [tx_al 2, tx_ic 0, tx_al 0, tx_il 1, tx_callvh (hT (some 12) none) 10 F_X10_decides 1, tx_i2l, tx_lax, tx_fall 15]
def b_L_decides_12 : List AT := [tx_as 3, tx_ic 1, tx_ri]
def b_L_decides_15 : List AT := [tx_ic 0, tx_ri]
def R_L_decides (J : JT) (Q : QT) : Prop := (∀ ls st M, wpl J Q b_L_decides_0 ls st M → J 0 ls st M) ∧ (∀ ls st M, wpl J Q b_L_decides_12 ls st M → J 12 ls st M) ∧ (∀ ls st M, wpl J Q b_L_decides_15 ls st M → J 15 ls st M)
theorem R_L_decides_0 {J : JT} {Q : QT} (R : R_L_decides J Q) {ls : Ls} {st : St} {M : Mem} (h : wpl J Q b_L_decides_0 ls st M) : J 0 ls st M := R.1 ls st M h
theorem R_L_decides_12 {J : JT} {Q : QT} (R : R_L_decides J Q) {ls : Ls} {st : St} {M : Mem} (h : wpl J Q b_L_decides_12 ls st M) : J 12 ls st M := R.2.1 ls st M h
theorem R_L_decides_15 {J : JT} {Q : QT} (R : R_L_decides J Q) {ls : Ls} {st : St} {M : Mem} (h : wpl J Q b_L_decides_15 ls st M) : J 15 ls st M := R.2.2 ls st M h
def b_L_hall_0 : List AT := [tx_al 2, tx_ic 0, tx_al 0, tx_il 1, tx_callvh (hT none (some 12)) 10 F_X10_hall 1, tx_i2l, tx_lax, tx_fall 15]
def b_L_hall_12 : List AT := [tx_as 3, tx_ic 1, tx_ri]
def b_L_hall_15 : List AT := [tx_ic 0, tx_ri]
def R_L_hall (J : JT) (Q : QT) : Prop := (∀ ls st M, wpl J Q b_L_hall_0 ls st M → J 0 ls st M) ∧ (∀ ls st M, wpl J Q b_L_hall_12 ls st M → J 12 ls st M) ∧ (∀ ls st M, wpl J Q b_L_hall_15 ls st M → J 15 ls st M)
theorem R_L_hall_0 {J : JT} {Q : QT} (R : R_L_hall J Q) {ls : Ls} {st : St} {M : Mem} (h : wpl J Q b_L_hall_0 ls st M) : J 0 ls st M := R.1 ls st M h
theorem R_L_hall_12 {J : JT} {Q : QT} (R : R_L_hall J Q) {ls : Ls} {st : St} {M : Mem} (h : wpl J Q b_L_hall_12 ls st M) : J 12 ls st M := R.2.1 ls st M h
theorem R_L_hall_15 {J : JT} {Q : QT} (R : R_L_hall J Q) {ls : Ls} {st : St} {M : Mem} (h : wpl J Q b_L_hall_15 ls st M) : J 15 ls st M := R.2.2 ls st M h
def b_L_holds_0 : List AT := [tx_al 3, tx_ic 0, tx_al 0, tx_il 1, tx_il 2, tx_callvh (hT (some 13) (some 17)) 10 F_X10_holds 2, tx_i2l, tx_lax, tx_fall 21]
def b_L_holds_13 : List AT := [tx_as 4, tx_ic 1, tx_ri]
def b_L_holds_17 : List AT := [tx_as 4, tx_ic 2, tx_ri]
def b_L_holds_21 : List AT := [tx_ic 0, tx_ri]
def R_L_holds (J : JT) (Q : QT) : Prop := (∀ ls st M, wpl J Q b_L_holds_0 ls st M → J 0 ls st M) ∧ (∀ ls st M, wpl J Q b_L_holds_13 ls st M → J 13 ls st M) ∧ (∀ ls st M, wpl J Q b_L_holds_17 ls st M → J 17 ls st M) ∧ (∀ ls st M, wpl J Q b_L_holds_21 ls st M → J 21 ls st M)
theorem R_L_holds_0 {J : JT} {Q : QT} (R : R_L_holds J Q) {ls : Ls} {st : St} {M : Mem} (h : wpl J Q b_L_holds_0 ls st M) : J 0 ls st M := R.1 ls st M h
theorem R_L_holds_13 {J : JT} {Q : QT} (R : R_L_holds J Q) {ls : Ls} {st : St} {M : Mem} (h : wpl J Q b_L_holds_13 ls st M) : J 13 ls st M := R.2.1 ls st M h
theorem R_L_holds_17 {J : JT} {Q : QT} (R : R_L_holds J Q) {ls : Ls} {st : St} {M : Mem} (h : wpl J Q b_L_holds_17 ls st M) : J 17 ls st M := R.2.2.1 ls st M h
theorem R_L_holds_21 {J : JT} {Q : QT} (R : R_L_holds J Q) {ls : Ls} {st : St} {M : Mem} (h : wpl J Q b_L_holds_21 ls st M) : J 21 ls st M := R.2.2.2 ls st M h
def b_L_hollow_0 : List AT := [tx_al 2, tx_ic 0, tx_al 0, tx_il 1, tx_callvh (hT none (some 12)) 10 F_X10_hollow 1, tx_i2l, tx_lax, tx_fall 15]
def b_L_hollow_12 : List AT := [tx_as 3, tx_ic 1, tx_ri]
def b_L_hollow_15 : List AT := [tx_ic 0, tx_ri]
def R_L_hollow (J : JT) (Q : QT) : Prop := (∀ ls st M, wpl J Q b_L_hollow_0 ls st M → J 0 ls st M) ∧ (∀ ls st M, wpl J Q b_L_hollow_12 ls st M → J 12 ls st M) ∧ (∀ ls st M, wpl J Q b_L_hollow_15 ls st M → J 15 ls st M)
theorem R_L_hollow_0 {J : JT} {Q : QT} (R : R_L_hollow J Q) {ls : Ls} {st : St} {M : Mem} (h : wpl J Q b_L_hollow_0 ls st M) : J 0 ls st M := R.1 ls st M h
theorem R_L_hollow_12 {J : JT} {Q : QT} (R : R_L_hollow J Q) {ls : Ls} {st : St} {M : Mem} (h : wpl J Q b_L_hollow_12 ls st M) : J 12 ls st M := R.2.1 ls st M h
theorem R_L_hollow_15 {J : JT} {Q : QT} (R : R_L_hollow J Q) {ls : Ls} {st : St} {M : Mem} (h : wpl J Q b_L_hollow_15 ls st M) : J 15 ls st M := R.2.2 ls st M h
def b_L_least_0 : List AT := [tx_al 3, tx_ic 0, tx_al 0, tx_il 1, tx_il 2, tx_callvh (hT (some 13) (some 17)) 10 F_X10_least 2, tx_i2l, tx_lax, tx_fall 21]
def b_L_least_13 : List AT := [tx_as 4, tx_ic 1, tx_ri]
def b_L_least_17 : List AT := [tx_as 4, tx_ic 2, tx_ri]
def b_L_least_21 : List AT := [tx_ic 0, tx_ri]
def R_L_least (J : JT) (Q : QT) : Prop := (∀ ls st M, wpl J Q b_L_least_0 ls st M → J 0 ls st M) ∧ (∀ ls st M, wpl J Q b_L_least_13 ls st M → J 13 ls st M) ∧ (∀ ls st M, wpl J Q b_L_least_17 ls st M → J 17 ls st M) ∧ (∀ ls st M, wpl J Q b_L_least_21 ls st M → J 21 ls st M)
theorem R_L_least_0 {J : JT} {Q : QT} (R : R_L_least J Q) {ls : Ls} {st : St} {M : Mem} (h : wpl J Q b_L_least_0 ls st M) : J 0 ls st M := R.1 ls st M h
theorem R_L_least_13 {J : JT} {Q : QT} (R : R_L_least J Q) {ls : Ls} {st : St} {M : Mem} (h : wpl J Q b_L_least_13 ls st M) : J 13 ls st M := R.2.1 ls st M h
theorem R_L_least_17 {J : JT} {Q : QT} (R : R_L_least J Q) {ls : Ls} {st : St} {M : Mem} (h : wpl J Q b_L_least_17 ls st M) : J 17 ls st M := R.2.2.1 ls st M h
theorem R_L_least_21 {J : JT} {Q : QT} (R : R_L_least J Q) {ls : Ls} {st : St} {M : Mem} (h : wpl J Q b_L_least_21 ls st M) : J 21 ls st M := R.2.2.2 ls st M h
def b_L_lend_0 : List AT := [tx_al 2, tx_ic 0, tx_al 0, tx_il 1, tx_callvh (hT none (some 12)) 10 F_X10_lend 1, tx_i2l, tx_lax, tx_fall 15]
def b_L_lend_12 : List AT := [tx_as 3, tx_ic 1, tx_ri]
def b_L_lend_15 : List AT := [tx_ic 0, tx_ri]
def R_L_lend (J : JT) (Q : QT) : Prop := (∀ ls st M, wpl J Q b_L_lend_0 ls st M → J 0 ls st M) ∧ (∀ ls st M, wpl J Q b_L_lend_12 ls st M → J 12 ls st M) ∧ (∀ ls st M, wpl J Q b_L_lend_15 ls st M → J 15 ls st M)
theorem R_L_lend_0 {J : JT} {Q : QT} (R : R_L_lend J Q) {ls : Ls} {st : St} {M : Mem} (h : wpl J Q b_L_lend_0 ls st M) : J 0 ls st M := R.1 ls st M h
theorem R_L_lend_12 {J : JT} {Q : QT} (R : R_L_lend J Q) {ls : Ls} {st : St} {M : Mem} (h : wpl J Q b_L_lend_12 ls st M) : J 12 ls st M := R.2.1 ls st M h
theorem R_L_lend_15 {J : JT} {Q : QT} (R : R_L_lend J Q) {ls : Ls} {st : St} {M : Mem} (h : wpl J Q b_L_lend_15 ls st M) : J 15 ls st M := R.2.2 ls st M h
def b_L_motion_0 : List AT := [tx_al 4, tx_ic 0, tx_al 0, tx_il 1, tx_il 2, tx_il 3, tx_callvh (hT (some 15) (some 19)) 10 F_X10_motion 3, tx_i2l, tx_lax, tx_fall 23]
def b_L_motion_15 : List AT := [tx_as 5, tx_ic 1, tx_ri]
def b_L_motion_19 : List AT := [tx_as 5, tx_ic 2, tx_ri]
def b_L_motion_23 : List AT := [tx_ic 0, tx_ri]
def R_L_motion (J : JT) (Q : QT) : Prop := (∀ ls st M, wpl J Q b_L_motion_0 ls st M → J 0 ls st M) ∧ (∀ ls st M, wpl J Q b_L_motion_15 ls st M → J 15 ls st M) ∧ (∀ ls st M, wpl J Q b_L_motion_19 ls st M → J 19 ls st M) ∧ (∀ ls st M, wpl J Q b_L_motion_23 ls st M → J 23 ls st M)
theorem R_L_motion_0 {J : JT} {Q : QT} (R : R_L_motion J Q) {ls : Ls} {st : St} {M : Mem} (h : wpl J Q b_L_motion_0 ls st M) : J 0 ls st M := R.1 ls st M h
theorem R_L_motion_15 {J : JT} {Q : QT} (R : R_L_motion J Q) {ls : Ls} {st : St} {M : Mem} (h : wpl J Q b_L_motion_15 ls st M) : J 15 ls st M := R.2.1 ls st M h
theorem R_L_motion_19 {J : JT} {Q : QT} (R : R_L_motion J Q) {ls : Ls} {st : St} {M : Mem} (h : wpl J Q b_L_motion_19 ls st M) : J 19 ls st M := R.2.2.1 ls st M h
theorem R_L_motion_23 {J : JT} {Q : QT} (R : R_L_motion J Q) {ls : Ls} {st : St} {M : Mem} (h : wpl J Q b_L_motion_23 ls st M) : J 23 ls st M := R.2.2.2 ls st M h
def b_L_owed_0 : List AT := [tx_al 4, tx_ic 0, tx_al 0, tx_il 1, tx_il 2, tx_il 3, tx_callvh (hT none (some 15)) 10 F_X10_owed 3, tx_i2l, tx_lax, tx_fall 19]
def b_L_owed_15 : List AT := [tx_as 5, tx_ic 1, tx_ri]
def b_L_owed_19 : List AT := [tx_ic 0, tx_ri]
def R_L_owed (J : JT) (Q : QT) : Prop := (∀ ls st M, wpl J Q b_L_owed_0 ls st M → J 0 ls st M) ∧ (∀ ls st M, wpl J Q b_L_owed_15 ls st M → J 15 ls st M) ∧ (∀ ls st M, wpl J Q b_L_owed_19 ls st M → J 19 ls st M)
theorem R_L_owed_0 {J : JT} {Q : QT} (R : R_L_owed J Q) {ls : Ls} {st : St} {M : Mem} (h : wpl J Q b_L_owed_0 ls st M) : J 0 ls st M := R.1 ls st M h
theorem R_L_owed_15 {J : JT} {Q : QT} (R : R_L_owed J Q) {ls : Ls} {st : St} {M : Mem} (h : wpl J Q b_L_owed_15 ls st M) : J 15 ls st M := R.2.1 ls st M h
theorem R_L_owed_19 {J : JT} {Q : QT} (R : R_L_owed J Q) {ls : Ls} {st : St} {M : Mem} (h : wpl J Q b_L_owed_19 ls st M) : J 19 ls st M := R.2.2 ls st M h
def b_L_passes_0 : List AT := [tx_al 2, tx_ic 0, tx_al 0, tx_il 1, tx_callvh (hT none (some 12)) 10 F_X10_passes 1, tx_i2l, tx_lax, tx_fall 15]
def b_L_passes_12 : List AT := [tx_as 3, tx_ic 1, tx_ri]
def b_L_passes_15 : List AT := [tx_ic 0, tx_ri]
def R_L_passes (J : JT) (Q : QT) : Prop := (∀ ls st M, wpl J Q b_L_passes_0 ls st M → J 0 ls st M) ∧ (∀ ls st M, wpl J Q b_L_passes_12 ls st M → J 12 ls st M) ∧ (∀ ls st M, wpl J Q b_L_passes_15 ls st M → J 15 ls st M)
theorem R_L_passes_0 {J : JT} {Q : QT} (R : R_L_passes J Q) {ls : Ls} {st : St} {M : Mem} (h : wpl J Q b_L_passes_0 ls st M) : J 0 ls st M := R.1 ls st M h
theorem R_L_passes_12 {J : JT} {Q : QT} (R : R_L_passes J Q) {ls : Ls} {st : St} {M : Mem} (h : wpl J Q b_L_passes_12 ls st M) : J 12 ls st M := R.2.1 ls st M h
theorem R_L_passes_15 {J : JT} {Q : QT} (R : R_L_passes J Q) {ls : Ls} {st : St} {M : Mem} (h : wpl J Q b_L_passes_15 ls st M) : J 15 ls st M := R.2.2 ls st M h
def b_L_person_0 : List AT := [tx_al 3, tx_ic 0, tx_al 0, tx_il 1, tx_il 2, tx_callvh (hT (some 13) (some 17)) 10 F_X10_person 2, tx_i2l, tx_lax, tx_fall 21]
def b_L_person_13 : List AT := [tx_as 4, tx_ic 1, tx_ri]
def b_L_person_17 : List AT := [tx_as 4, tx_ic 2, tx_ri]
def b_L_person_21 : List AT := [tx_ic 0, tx_ri]
def R_L_person (J : JT) (Q : QT) : Prop := (∀ ls st M, wpl J Q b_L_person_0 ls st M → J 0 ls st M) ∧ (∀ ls st M, wpl J Q b_L_person_13 ls st M → J 13 ls st M) ∧ (∀ ls st M, wpl J Q b_L_person_17 ls st M → J 17 ls st M) ∧ (∀ ls st M, wpl J Q b_L_person_21 ls st M → J 21 ls st M)
theorem R_L_person_0 {J : JT} {Q : QT} (R : R_L_person J Q) {ls : Ls} {st : St} {M : Mem} (h : wpl J Q b_L_person_0 ls st M) : J 0 ls st M := R.1 ls st M h
theorem R_L_person_13 {J : JT} {Q : QT} (R : R_L_person J Q) {ls : Ls} {st : St} {M : Mem} (h : wpl J Q b_L_person_13 ls st M) : J 13 ls st M := R.2.1 ls st M h
theorem R_L_person_17 {J : JT} {Q : QT} (R : R_L_person J Q) {ls : Ls} {st : St} {M : Mem} (h : wpl J Q b_L_person_17 ls st M) : J 17 ls st M := R.2.2.1 ls st M h
theorem R_L_person_21 {J : JT} {Q : QT} (R : R_L_person J Q) {ls : Ls} {st : St} {M : Mem} (h : wpl J Q b_L_person_21 ls st M) : J 21 ls st M := R.2.2.2 ls st M h
def b_L_pounds_0 : List AT := [tx_al 4, tx_ic 0, tx_al 0, tx_il 1, tx_il 2, tx_il 3, tx_callvh (hT (some 15) (some 19)) 10 F_X10_pounds 3, tx_i2l, tx_lax, tx_fall 23]
def b_L_pounds_15 : List AT := [tx_as 5, tx_ic 1, tx_ri]
def b_L_pounds_19 : List AT := [tx_as 5, tx_ic 2, tx_ri]
def b_L_pounds_23 : List AT := [tx_ic 0, tx_ri]
def R_L_pounds (J : JT) (Q : QT) : Prop := (∀ ls st M, wpl J Q b_L_pounds_0 ls st M → J 0 ls st M) ∧ (∀ ls st M, wpl J Q b_L_pounds_15 ls st M → J 15 ls st M) ∧ (∀ ls st M, wpl J Q b_L_pounds_19 ls st M → J 19 ls st M) ∧ (∀ ls st M, wpl J Q b_L_pounds_23 ls st M → J 23 ls st M)
theorem R_L_pounds_0 {J : JT} {Q : QT} (R : R_L_pounds J Q) {ls : Ls} {st : St} {M : Mem} (h : wpl J Q b_L_pounds_0 ls st M) : J 0 ls st M := R.1 ls st M h
theorem R_L_pounds_15 {J : JT} {Q : QT} (R : R_L_pounds J Q) {ls : Ls} {st : St} {M : Mem} (h : wpl J Q b_L_pounds_15 ls st M) : J 15 ls st M := R.2.1 ls st M h
theorem R_L_pounds_19 {J : JT} {Q : QT} (R : R_L_pounds J Q) {ls : Ls} {st : St} {M : Mem} (h : wpl J Q b_L_pounds_19 ls st M) : J 19 ls st M := R.2.2.1 ls st M h
theorem R_L_pounds_23 {J : JT} {Q : QT} (R : R_L_pounds J Q) {ls : Ls} {st : St} {M : Mem} (h : wpl J Q b_L_pounds_23 ls st M) : J 23 ls st M := R.2.2.2 ls st M h
def b_L_power_0 : List AT := [tx_al 2, tx_ic 0, tx_al 0, tx_il 1, tx_callvh (hT (some 12) none) 10 F_X10_power 1, tx_i2l, tx_lax, tx_fall 15]
def b_L_power_12 : List AT := [tx_as 3, tx_ic 1, tx_ri]
def b_L_power_15 : List AT := [tx_ic 0, tx_ri]
def R_L_power (J : JT) (Q : QT) : Prop := (∀ ls st M, wpl J Q b_L_power_0 ls st M → J 0 ls st M) ∧ (∀ ls st M, wpl J Q b_L_power_12 ls st M → J 12 ls st M) ∧ (∀ ls st M, wpl J Q b_L_power_15 ls st M → J 15 ls st M)
theorem R_L_power_0 {J : JT} {Q : QT} (R : R_L_power J Q) {ls : Ls} {st : St} {M : Mem} (h : wpl J Q b_L_power_0 ls st M) : J 0 ls st M := R.1 ls st M h
theorem R_L_power_12 {J : JT} {Q : QT} (R : R_L_power J Q) {ls : Ls} {st : St} {M : Mem} (h : wpl J Q b_L_power_12 ls st M) : J 12 ls st M := R.2.1 ls st M h
theorem R_L_power_15 {J : JT} {Q : QT} (R : R_L_power J Q) {ls : Ls} {st : St} {M : Mem} (h : wpl J Q b_L_power_15 ls st M) : J 15 ls st M := R.2.2 ls st M h
def b_L_speech_0 : List AT := [tx_al 3, tx_ic 0, tx_al 0, tx_il 1, tx_il 2, tx_callvh (hT (some 20) (some 24)) 10 F_X10_speech 2, tx_ifz r_eq 15, tx_lc 1, tx_fall 16]
def b_L_speech_15 : List AT := [tx_lc 0, tx_fall 16]
def b_L_speech_16 : List AT := [tx_lax, tx_fall 28]
def b_L_speech_20 : List AT := [tx_as 4, tx_ic 1, tx_ri]
def b_L_speech_24 : List AT := [tx_as 4, tx_ic 2, tx_ri]
def b_L_speech_28 : List AT := [tx_ic 0, tx_ri]
def R_L_speech (J : JT) (Q : QT) : Prop := (∀ ls st M, wpl J Q b_L_speech_0 ls st M → J 0 ls st M) ∧ (∀ ls st M, wpl J Q b_L_speech_15 ls st M → J 15 ls st M) ∧ (∀ ls st M, wpl J Q b_L_speech_16 ls st M → J 16 ls st M) ∧ (∀ ls st M, wpl J Q b_L_speech_20 ls st M → J 20 ls st M) ∧ (∀ ls st M, wpl J Q b_L_speech_24 ls st M → J 24 ls st M) ∧ (∀ ls st M, wpl J Q b_L_speech_28 ls st M → J 28 ls st M)
theorem R_L_speech_0 {J : JT} {Q : QT} (R : R_L_speech J Q) {ls : Ls} {st : St} {M : Mem} (h : wpl J Q b_L_speech_0 ls st M) : J 0 ls st M := R.1 ls st M h
theorem R_L_speech_15 {J : JT} {Q : QT} (R : R_L_speech J Q) {ls : Ls} {st : St} {M : Mem} (h : wpl J Q b_L_speech_15 ls st M) : J 15 ls st M := R.2.1 ls st M h
theorem R_L_speech_16 {J : JT} {Q : QT} (R : R_L_speech J Q) {ls : Ls} {st : St} {M : Mem} (h : wpl J Q b_L_speech_16 ls st M) : J 16 ls st M := R.2.2.1 ls st M h
theorem R_L_speech_20 {J : JT} {Q : QT} (R : R_L_speech J Q) {ls : Ls} {st : St} {M : Mem} (h : wpl J Q b_L_speech_20 ls st M) : J 20 ls st M := R.2.2.2.1 ls st M h
theorem R_L_speech_24 {J : JT} {Q : QT} (R : R_L_speech J Q) {ls : Ls} {st : St} {M : Mem} (h : wpl J Q b_L_speech_24 ls st M) : J 24 ls st M := R.2.2.2.2.1 ls st M h
theorem R_L_speech_28 {J : JT} {Q : QT} (R : R_L_speech J Q) {ls : Ls} {st : St} {M : Mem} (h : wpl J Q b_L_speech_28 ls st M) : J 28 ls st M := R.2.2.2.2.2 ls st M h
def b_L_spent_0 : List AT := [tx_al 2, tx_ic 0, tx_al 0, tx_il 1, tx_callvh (hT (some 12) none) 10 F_X10_spent 1, tx_i2l, tx_lax, tx_fall 15]
def b_L_spent_12 : List AT := [tx_as 3, tx_ic 1, tx_ri]
def b_L_spent_15 : List AT := [tx_ic 0, tx_ri]
def R_L_spent (J : JT) (Q : QT) : Prop := (∀ ls st M, wpl J Q b_L_spent_0 ls st M → J 0 ls st M) ∧ (∀ ls st M, wpl J Q b_L_spent_12 ls st M → J 12 ls st M) ∧ (∀ ls st M, wpl J Q b_L_spent_15 ls st M → J 15 ls st M)
theorem R_L_spent_0 {J : JT} {Q : QT} (R : R_L_spent J Q) {ls : Ls} {st : St} {M : Mem} (h : wpl J Q b_L_spent_0 ls st M) : J 0 ls st M := R.1 ls st M h
theorem R_L_spent_12 {J : JT} {Q : QT} (R : R_L_spent J Q) {ls : Ls} {st : St} {M : Mem} (h : wpl J Q b_L_spent_12 ls st M) : J 12 ls st M := R.2.1 ls st M h
theorem R_L_spent_15 {J : JT} {Q : QT} (R : R_L_spent J Q) {ls : Ls} {st : St} {M : Mem} (h : wpl J Q b_L_spent_15 ls st M) : J 15 ls st M := R.2.2 ls st M h
def b_L_sums_0 : List AT := [tx_al 3, tx_ic 0, tx_al 0, tx_il 1, tx_il 2, tx_callvh (hT none (some 13)) 10 F_X10_sums 2, tx_i2l, tx_lax, tx_fall 17]
def b_L_sums_13 : List AT := [tx_as 4, tx_ic 1, tx_ri]
def b_L_sums_17 : List AT := [tx_ic 0, tx_ri]
def R_L_sums (J : JT) (Q : QT) : Prop := (∀ ls st M, wpl J Q b_L_sums_0 ls st M → J 0 ls st M) ∧ (∀ ls st M, wpl J Q b_L_sums_13 ls st M → J 13 ls st M) ∧ (∀ ls st M, wpl J Q b_L_sums_17 ls st M → J 17 ls st M)
theorem R_L_sums_0 {J : JT} {Q : QT} (R : R_L_sums J Q) {ls : Ls} {st : St} {M : Mem} (h : wpl J Q b_L_sums_0 ls st M) : J 0 ls st M := R.1 ls st M h
theorem R_L_sums_13 {J : JT} {Q : QT} (R : R_L_sums J Q) {ls : Ls} {st : St} {M : Mem} (h : wpl J Q b_L_sums_13 ls st M) : J 13 ls st M := R.2.1 ls st M h
theorem R_L_sums_17 {J : JT} {Q : QT} (R : R_L_sums J Q) {ls : Ls} {st : St} {M : Mem} (h : wpl J Q b_L_sums_17 ls st M) : J 17 ls st M := R.2.2 ls st M h
def b_L_thing_0 : List AT := [tx_al 3, tx_ic 0, tx_al 0, tx_il 1, tx_il 2, tx_callvh (hT (some 13) (some 17)) 10 F_X10_thing 2, tx_i2l, tx_lax, tx_fall 21]
def b_L_thing_13 : List AT := [tx_as 4, tx_ic 1, tx_ri]
def b_L_thing_17 : List AT := [tx_as 4, tx_ic 2, tx_ri]
def b_L_thing_21 : List AT := [tx_ic 0, tx_ri]
def R_L_thing (J : JT) (Q : QT) : Prop := (∀ ls st M, wpl J Q b_L_thing_0 ls st M → J 0 ls st M) ∧ (∀ ls st M, wpl J Q b_L_thing_13 ls st M → J 13 ls st M) ∧ (∀ ls st M, wpl J Q b_L_thing_17 ls st M → J 17 ls st M) ∧ (∀ ls st M, wpl J Q b_L_thing_21 ls st M → J 21 ls st M)
theorem R_L_thing_0 {J : JT} {Q : QT} (R : R_L_thing J Q) {ls : Ls} {st : St} {M : Mem} (h : wpl J Q b_L_thing_0 ls st M) : J 0 ls st M := R.1 ls st M h
theorem R_L_thing_13 {J : JT} {Q : QT} (R : R_L_thing J Q) {ls : Ls} {st : St} {M : Mem} (h : wpl J Q b_L_thing_13 ls st M) : J 13 ls st M := R.2.1 ls st M h
theorem R_L_thing_17 {J : JT} {Q : QT} (R : R_L_thing J Q) {ls : Ls} {st : St} {M : Mem} (h : wpl J Q b_L_thing_17 ls st M) : J 17 ls st M := R.2.2.1 ls st M h
theorem R_L_thing_21 {J : JT} {Q : QT} (R : R_L_thing J Q) {ls : Ls} {st : St} {M : Mem} (h : wpl J Q b_L_thing_21 ls st M) : J 21 ls st M := R.2.2.2 ls st M h
def b_L_tired_0 : List AT := [tx_al 2, tx_ic 0, tx_al 0, tx_il 1, tx_callvh (hT (some 12) none) 10 F_X10_tired 1, tx_i2l, tx_lax, tx_fall 15]
def b_L_tired_12 : List AT := [tx_as 3, tx_ic 1, tx_ri]
def b_L_tired_15 : List AT := [tx_ic 0, tx_ri]
def R_L_tired (J : JT) (Q : QT) : Prop := (∀ ls st M, wpl J Q b_L_tired_0 ls st M → J 0 ls st M) ∧ (∀ ls st M, wpl J Q b_L_tired_12 ls st M → J 12 ls st M) ∧ (∀ ls st M, wpl J Q b_L_tired_15 ls st M → J 15 ls st M)
theorem R_L_tired_0 {J : JT} {Q : QT} (R : R_L_tired J Q) {ls : Ls} {st : St} {M : Mem} (h : wpl J Q b_L_tired_0 ls st M) : J 0 ls st M := R.1 ls st M h
theorem R_L_tired_12 {J : JT} {Q : QT} (R : R_L_tired J Q) {ls : Ls} {st : St} {M : Mem} (h : wpl J Q b_L_tired_12 ls st M) : J 12 ls st M := R.2.1 ls st M h
theorem R_L_tired_15 {J : JT} {Q : QT} (R : R_L_tired J Q) {ls : Ls} {st : St} {M : Mem} (h : wpl J Q b_L_tired_15 ls st M) : J 15 ls st M := R.2.2 ls st M h
def b_L_told_0 : List AT := [tx_al 2, tx_ic 0, tx_al 0, tx_il 1, tx_callvh (hT none (some 12)) 10 F_X10_told 1, tx_i2l, tx_lax, tx_fall 15]
def b_L_told_12 : List AT := [tx_as 3, tx_ic 1, tx_ri]
def b_L_told_15 : List AT := [tx_ic 0, tx_ri]
def R_L_told (J : JT) (Q : QT) : Prop := (∀ ls st M, wpl J Q b_L_told_0 ls st M → J 0 ls st M) ∧ (∀ ls st M, wpl J Q b_L_told_12 ls st M → J 12 ls st M) ∧ (∀ ls st M, wpl J Q b_L_told_15 ls st M → J 15 ls st M)
theorem R_L_told_0 {J : JT} {Q : QT} (R : R_L_told J Q) {ls : Ls} {st : St} {M : Mem} (h : wpl J Q b_L_told_0 ls st M) : J 0 ls st M := R.1 ls st M h
theorem R_L_told_12 {J : JT} {Q : QT} (R : R_L_told J Q) {ls : Ls} {st : St} {M : Mem} (h : wpl J Q b_L_told_12 ls st M) : J 12 ls st M := R.2.1 ls st M h
theorem R_L_told_15 {J : JT} {Q : QT} (R : R_L_told J Q) {ls : Ls} {st : St} {M : Mem} (h : wpl J Q b_L_told_15 ls st M) : J 15 ls st M := R.2.2 ls st M h
def b_L_unlike_0 : List AT := [tx_al 3, tx_ic 0, tx_al 0, tx_il 1, tx_il 2, tx_callvh (hT none (some 13)) 10 F_X10_unlike 2, tx_i2l, tx_lax, tx_fall 17]
def b_L_unlike_13 : List AT := [tx_as 4, tx_ic 1, tx_ri]
def b_L_unlike_17 : List AT := [tx_ic 0, tx_ri]
def R_L_unlike (J : JT) (Q : QT) : Prop := (∀ ls st M, wpl J Q b_L_unlike_0 ls st M → J 0 ls st M) ∧ (∀ ls st M, wpl J Q b_L_unlike_13 ls st M → J 13 ls st M) ∧ (∀ ls st M, wpl J Q b_L_unlike_17 ls st M → J 17 ls st M)
theorem R_L_unlike_0 {J : JT} {Q : QT} (R : R_L_unlike J Q) {ls : Ls} {st : St} {M : Mem} (h : wpl J Q b_L_unlike_0 ls st M) : J 0 ls st M := R.1 ls st M h
theorem R_L_unlike_13 {J : JT} {Q : QT} (R : R_L_unlike J Q) {ls : Ls} {st : St} {M : Mem} (h : wpl J Q b_L_unlike_13 ls st M) : J 13 ls st M := R.2.1 ls st M h
theorem R_L_unlike_17 {J : JT} {Q : QT} (R : R_L_unlike J Q) {ls : Ls} {st : St} {M : Mem} (h : wpl J Q b_L_unlike_17 ls st M) : J 17 ls st M := R.2.2 ls st M h
def b_L_vote_0 : List AT := [tx_al 4, tx_ic 0, tx_al 0, tx_il 1, tx_il 2, tx_il 3, tx_callvh (hT none (some 15)) 10 F_X10_vote 3, tx_i2l, tx_lax, tx_fall 19]
def b_L_vote_15 : List AT := [tx_as 5, tx_ic 1, tx_ri]
def b_L_vote_19 : List AT := [tx_ic 0, tx_ri]
def R_L_vote (J : JT) (Q : QT) : Prop := (∀ ls st M, wpl J Q b_L_vote_0 ls st M → J 0 ls st M) ∧ (∀ ls st M, wpl J Q b_L_vote_15 ls st M → J 15 ls st M) ∧ (∀ ls st M, wpl J Q b_L_vote_19 ls st M → J 19 ls st M)
theorem R_L_vote_0 {J : JT} {Q : QT} (R : R_L_vote J Q) {ls : Ls} {st : St} {M : Mem} (h : wpl J Q b_L_vote_0 ls st M) : J 0 ls st M := R.1 ls st M h
theorem R_L_vote_15 {J : JT} {Q : QT} (R : R_L_vote J Q) {ls : Ls} {st : St} {M : Mem} (h : wpl J Q b_L_vote_15 ls st M) : J 15 ls st M := R.2.1 ls st M h
theorem R_L_vote_19 {J : JT} {Q : QT} (R : R_L_vote J Q) {ls : Ls} {st : St} {M : Mem} (h : wpl J Q b_L_vote_19 ls st M) : J 19 ls st M := R.2.2 ls st M h
def b_L_wins_0 : List AT := [tx_al 2, tx_ic 0, tx_al 0, tx_il 1, tx_callvh (hT none (some 19)) 10 F_X10_wins 1, tx_ifz r_eq 14, tx_lc 1, tx_fall 15]
def b_L_wins_14 : List AT := [tx_lc 0, tx_fall 15]
def b_L_wins_15 : List AT := [tx_lax, tx_fall 22]
def b_L_wins_19 : List AT := [tx_as 3, tx_ic 1, tx_ri]
def b_L_wins_22 : List AT := [tx_ic 0, tx_ri]
def R_L_wins (J : JT) (Q : QT) : Prop := (∀ ls st M, wpl J Q b_L_wins_0 ls st M → J 0 ls st M) ∧ (∀ ls st M, wpl J Q b_L_wins_14 ls st M → J 14 ls st M) ∧ (∀ ls st M, wpl J Q b_L_wins_15 ls st M → J 15 ls st M) ∧ (∀ ls st M, wpl J Q b_L_wins_19 ls st M → J 19 ls st M) ∧ (∀ ls st M, wpl J Q b_L_wins_22 ls st M → J 22 ls st M)
theorem R_L_wins_0 {J : JT} {Q : QT} (R : R_L_wins J Q) {ls : Ls} {st : St} {M : Mem} (h : wpl J Q b_L_wins_0 ls st M) : J 0 ls st M := R.1 ls st M h
theorem R_L_wins_14 {J : JT} {Q : QT} (R : R_L_wins J Q) {ls : Ls} {st : St} {M : Mem} (h : wpl J Q b_L_wins_14 ls st M) : J 14 ls st M := R.2.1 ls st M h
theorem R_L_wins_15 {J : JT} {Q : QT} (R : R_L_wins J Q) {ls : Ls} {st : St} {M : Mem} (h : wpl J Q b_L_wins_15 ls st M) : J 15 ls st M := R.2.2.1 ls st M h
theorem R_L_wins_19 {J : JT} {Q : QT} (R : R_L_wins J Q) {ls : Ls} {st : St} {M : Mem} (h : wpl J Q b_L_wins_19 ls st M) : J 19 ls st M := R.2.2.2.1 ls st M h
theorem R_L_wins_22 {J : JT} {Q : QT} (R : R_L_wins J Q) {ls : Ls} {st : St} {M : Mem} (h : wpl J Q b_L_wins_22 ls st M) : J 22 ls st M := R.2.2.2.2 ls st M h
theorem P_L_bring {J : JT} {Q : QT} (R : R_L_bring J Q) {as : List Vl} {M : Mem} (h : nf G_L_bring as M Q) : (enL as).length ≤ 5 ∧ J 0 (padL 5 (enL as)) [] M := by
  unfold nf G_L_bring at h
  split at h
  · rename_i k x1 x2 o
    obtain ⟨⟨rfl, rfl⟩, s, hM, hQ⟩ := h
    have ea : (an_bring x1 x2 s).1 = 0 ∨ (an_bring x1 x2 s).1 = 1 ∨ (an_bring x1 x2 s).1 = 2 := by
      unfold an_bring
      split
      · exact Or.inr (Or.inl rfl)
      · split
        · exact Or.inr (Or.inr rfl)
        · exact Or.inl rfl
    exact ⟨Nat.le_of_ble_eq_true rfl, R_L_bring_0 R (an o0 ⟨rfl, s, hM, fun M2 cf h2 => cq_two ea (fun z => an (ak_of sh336 (by decide) (by decide)) (R_L_bring_21 R (l_yes (cd := cd2) rfl z cf h2 hQ rfl))) (fun z _ => R_L_bring_13 R (l_no (cd := cd2) (by decide) z cf h2 hQ rfl)) (fun z _ => R_L_bring_17 R (l_no (cd := cd2) (by decide) z cf h2 hQ rfl))⟩)⟩
  · exact h.elim
theorem P_L_decides {J : JT} {Q : QT} (R : R_L_decides J Q) {as : List Vl} {M : Mem} (h : nf G_L_decides as M Q) : (enL as).length ≤ 4 ∧ J 0 (padL 4 (enL as)) [] M := by
  unfold nf G_L_decides at h
  split at h
  · rename_i k x1 o
    obtain ⟨⟨rfl, rfl⟩, s, hM, hQ⟩ := h
    have ea : (an_decides x1 s).1 = 0 ∨ (an_decides x1 s).1 = 1 := by
      unfold an_decides
      split
      · exact Or.inr rfl
      · exact Or.inl rfl
    exact ⟨Nat.le_of_ble_eq_true rfl, R_L_decides_0 R (an o0 ⟨rfl, s, hM, fun M2 cf h2 => cq_one 1 ea (fun z => an (ak_of sh336 (by decide) (by decide)) (R_L_decides_15 R (l_yes (cd := cd1) rfl z cf h2 hQ rfl))) (fun z _ => R_L_decides_12 R (l_no (cd := cd1) (by decide) z cf h2 hQ rfl))⟩)⟩
  · exact h.elim
theorem P_L_hall {J : JT} {Q : QT} (R : R_L_hall J Q) {as : List Vl} {M : Mem} (h : nf G_L_hall as M Q) : (enL as).length ≤ 4 ∧ J 0 (padL 4 (enL as)) [] M := by
  unfold nf G_L_hall at h
  split at h
  · rename_i k x1 o
    obtain ⟨⟨rfl, rfl⟩, s, hM, hQ⟩ := h
    have ea : (an_hall x1 s).1 = 0 ∨ (an_hall x1 s).1 = 2 := by
      unfold an_hall
      split
      · exact Or.inr rfl
      · exact Or.inl (by split <;> rfl)
    exact ⟨Nat.le_of_ble_eq_true rfl, R_L_hall_0 R (an o0 ⟨rfl, s, hM, fun M2 cf h2 => cq_one 2 ea (fun z => an (ak_of sh336 (by decide) (by decide)) (R_L_hall_15 R (l_yes (cd := cd1) rfl z cf h2 hQ rfl))) (fun z _ => R_L_hall_12 R (l_no (cd := cd1) (by decide) z cf h2 hQ rfl))⟩)⟩
  · exact h.elim
theorem P_L_holds {J : JT} {Q : QT} (R : R_L_holds J Q) {as : List Vl} {M : Mem} (h : nf G_L_holds as M Q) : (enL as).length ≤ 5 ∧ J 0 (padL 5 (enL as)) [] M := by
  unfold nf G_L_holds at h
  split at h
  · rename_i k x1 x2 o
    obtain ⟨⟨rfl, rfl⟩, s, hM, hQ⟩ := h
    have ea : (an_holds x1 x2 s).1 = 0 ∨ (an_holds x1 x2 s).1 = 1 ∨ (an_holds x1 x2 s).1 = 2 := by
      unfold an_holds
      split
      · exact Or.inr (Or.inl rfl)
      · split
        · exact Or.inr (Or.inr rfl)
        · exact Or.inl rfl
    exact ⟨Nat.le_of_ble_eq_true rfl, R_L_holds_0 R (an o0 ⟨rfl, s, hM, fun M2 cf h2 => cq_two ea (fun z => an (ak_of sh336 (by decide) (by decide)) (R_L_holds_21 R (l_yes (cd := cd2) rfl z cf h2 hQ rfl))) (fun z _ => R_L_holds_13 R (l_no (cd := cd2) (by decide) z cf h2 hQ rfl)) (fun z _ => R_L_holds_17 R (l_no (cd := cd2) (by decide) z cf h2 hQ rfl))⟩)⟩
  · exact h.elim
theorem P_L_hollow {J : JT} {Q : QT} (R : R_L_hollow J Q) {as : List Vl} {M : Mem} (h : nf G_L_hollow as M Q) : (enL as).length ≤ 4 ∧ J 0 (padL 4 (enL as)) [] M := by
  unfold nf G_L_hollow at h
  split at h
  · rename_i k x1 o
    obtain ⟨⟨rfl, rfl⟩, s, hM, hQ⟩ := h
    have ea : (an_hollow x1 s).1 = 0 ∨ (an_hollow x1 s).1 = 2 := by
      unfold an_hollow
      split
      · exact Or.inr rfl
      · exact Or.inl rfl
    exact ⟨Nat.le_of_ble_eq_true rfl, R_L_hollow_0 R (an o0 ⟨rfl, s, hM, fun M2 cf h2 => cq_one 2 ea (fun z => an (ak_of sh336 (by decide) (by decide)) (R_L_hollow_15 R (l_yes (cd := cd1) rfl z cf h2 hQ rfl))) (fun z _ => R_L_hollow_12 R (l_no (cd := cd1) (by decide) z cf h2 hQ rfl))⟩)⟩
  · exact h.elim
theorem P_L_least {J : JT} {Q : QT} (R : R_L_least J Q) {as : List Vl} {M : Mem} (h : nf G_L_least as M Q) : (enL as).length ≤ 5 ∧ J 0 (padL 5 (enL as)) [] M := by
  unfold nf G_L_least at h
  split at h
  · rename_i k x1 x2 o
    obtain ⟨⟨rfl, rfl⟩, s, hM, hQ⟩ := h
    have ea : (an_least x1 x2 s).1 = 0 ∨ (an_least x1 x2 s).1 = 1 ∨ (an_least x1 x2 s).1 = 2 := by
      unfold an_least
      split
      · exact Or.inr (Or.inl rfl)
      · split
        · exact Or.inr (Or.inr rfl)
        · exact Or.inl rfl
    exact ⟨Nat.le_of_ble_eq_true rfl, R_L_least_0 R (an o0 ⟨rfl, s, hM, fun M2 cf h2 => cq_two ea (fun z => an (ak_of sh336 (by decide) (by decide)) (R_L_least_21 R (l_yes (cd := cd2) rfl z cf h2 hQ rfl))) (fun z _ => R_L_least_13 R (l_no (cd := cd2) (by decide) z cf h2 hQ rfl)) (fun z _ => R_L_least_17 R (l_no (cd := cd2) (by decide) z cf h2 hQ rfl))⟩)⟩
  · exact h.elim
theorem P_L_lend {J : JT} {Q : QT} (R : R_L_lend J Q) {as : List Vl} {M : Mem} (h : nf G_L_lend as M Q) : (enL as).length ≤ 4 ∧ J 0 (padL 4 (enL as)) [] M := by
  unfold nf G_L_lend at h
  split at h
  · rename_i k x1 o
    obtain ⟨⟨rfl, rfl⟩, s, hM, hQ⟩ := h
    have ea : (an_lend x1 s).1 = 0 ∨ (an_lend x1 s).1 = 2 := by
      unfold an_lend
      split
      · exact Or.inr rfl
      · exact Or.inl (by split <;> rfl)
    exact ⟨Nat.le_of_ble_eq_true rfl, R_L_lend_0 R (an o0 ⟨rfl, s, hM, fun M2 cf h2 => cq_one 2 ea (fun z => an (ak_of sh336 (by decide) (by decide)) (R_L_lend_15 R (l_yes (cd := cd1) rfl z cf h2 hQ rfl))) (fun z _ => R_L_lend_12 R (l_no (cd := cd1) (by decide) z cf h2 hQ rfl))⟩)⟩
  · exact h.elim
theorem P_L_motion {J : JT} {Q : QT} (R : R_L_motion J Q) {as : List Vl} {M : Mem} (h : nf G_L_motion as M Q) : (enL as).length ≤ 6 ∧ J 0 (padL 6 (enL as)) [] M := by
  unfold nf G_L_motion at h
  split at h
  · rename_i k x1 x2 x3 o
    obtain ⟨⟨rfl, rfl⟩, s, hM, hQ⟩ := h
    have ea : (an_motion x1 x2 x3 s).1 = 0 ∨ (an_motion x1 x2 x3 s).1 = 1 ∨ (an_motion x1 x2 x3 s).1 = 2 := by
      unfold an_motion
      split
      · exact Or.inr (Or.inl rfl)
      · split
        · exact Or.inr (Or.inr rfl)
        · exact Or.inl rfl
    exact ⟨Nat.le_of_ble_eq_true rfl, R_L_motion_0 R (an o0 ⟨rfl, s, hM, fun M2 cf h2 => cq_two ea (fun z => an (ak_of sh336 (by decide) (by decide)) (R_L_motion_23 R (l_yes (cd := cd2) rfl z cf h2 hQ rfl))) (fun z _ => R_L_motion_15 R (l_no (cd := cd2) (by decide) z cf h2 hQ rfl)) (fun z _ => R_L_motion_19 R (l_no (cd := cd2) (by decide) z cf h2 hQ rfl))⟩)⟩
  · exact h.elim
theorem P_L_owed {J : JT} {Q : QT} (R : R_L_owed J Q) {as : List Vl} {M : Mem} (h : nf G_L_owed as M Q) : (enL as).length ≤ 6 ∧ J 0 (padL 6 (enL as)) [] M := by
  unfold nf G_L_owed at h
  split at h
  · rename_i k x1 x2 x3 o
    obtain ⟨⟨rfl, rfl⟩, s, hM, hQ⟩ := h
    have ea : (an_owed x1 x2 x3 s).1 = 0 ∨ (an_owed x1 x2 x3 s).1 = 2 := by
      unfold an_owed
      split
      · exact Or.inr rfl
      · exact Or.inl rfl
    exact ⟨Nat.le_of_ble_eq_true rfl, R_L_owed_0 R (an o0 ⟨rfl, s, hM, fun M2 cf h2 => cq_one 2 ea (fun z => an (ak_of sh336 (by decide) (by decide)) (R_L_owed_19 R (l_yes (cd := cd1) rfl z cf h2 hQ rfl))) (fun z _ => R_L_owed_15 R (l_no (cd := cd1) (by decide) z cf h2 hQ rfl))⟩)⟩
  · exact h.elim
theorem P_L_passes {J : JT} {Q : QT} (R : R_L_passes J Q) {as : List Vl} {M : Mem} (h : nf G_L_passes as M Q) : (enL as).length ≤ 4 ∧ J 0 (padL 4 (enL as)) [] M := by
  unfold nf G_L_passes at h
  split at h
  · rename_i k x1 o
    obtain ⟨⟨rfl, rfl⟩, s, hM, hQ⟩ := h
    have ea : (an_passes x1 s).1 = 0 ∨ (an_passes x1 s).1 = 2 := by
      unfold an_passes
      split
      · exact Or.inr rfl
      · exact Or.inl rfl
    exact ⟨Nat.le_of_ble_eq_true rfl, R_L_passes_0 R (an o0 ⟨rfl, s, hM, fun M2 cf h2 => cq_one 2 ea (fun z => an (ak_of sh336 (by decide) (by decide)) (R_L_passes_15 R (l_yes (cd := cd1) rfl z cf h2 hQ rfl))) (fun z _ => R_L_passes_12 R (l_no (cd := cd1) (by decide) z cf h2 hQ rfl))⟩)⟩
  · exact h.elim
theorem P_L_person {J : JT} {Q : QT} (R : R_L_person J Q) {as : List Vl} {M : Mem} (h : nf G_L_person as M Q) : (enL as).length ≤ 5 ∧ J 0 (padL 5 (enL as)) [] M := by
  unfold nf G_L_person at h
  split at h
  · rename_i k x1 x2 o
    obtain ⟨⟨rfl, rfl⟩, s, hM, hQ⟩ := h
    have ea : (an_person x1 x2 s).1 = 0 ∨ (an_person x1 x2 s).1 = 1 ∨ (an_person x1 x2 s).1 = 2 := by
      unfold an_person
      split
      · exact Or.inr (Or.inl rfl)
      · split
        · exact Or.inr (Or.inr rfl)
        · exact Or.inl rfl
    exact ⟨Nat.le_of_ble_eq_true rfl, R_L_person_0 R (an o0 ⟨rfl, s, hM, fun M2 cf h2 => cq_two ea (fun z => an (ak_of sh336 (by decide) (by decide)) (R_L_person_21 R (l_yes (cd := cd2) rfl z cf h2 hQ rfl))) (fun z _ => R_L_person_13 R (l_no (cd := cd2) (by decide) z cf h2 hQ rfl)) (fun z _ => R_L_person_17 R (l_no (cd := cd2) (by decide) z cf h2 hQ rfl))⟩)⟩
  · exact h.elim
theorem P_L_pounds {J : JT} {Q : QT} (R : R_L_pounds J Q) {as : List Vl} {M : Mem} (h : nf G_L_pounds as M Q) : (enL as).length ≤ 6 ∧ J 0 (padL 6 (enL as)) [] M := by
  unfold nf G_L_pounds at h
  split at h
  · rename_i k x1 x2 x3 o
    obtain ⟨⟨rfl, rfl⟩, s, hM, hQ⟩ := h
    have ea : (an_pounds x1 x2 x3 s).1 = 0 ∨ (an_pounds x1 x2 x3 s).1 = 1 ∨ (an_pounds x1 x2 x3 s).1 = 2 := by
      unfold an_pounds
      split
      · exact Or.inr (Or.inl rfl)
      · split
        · exact Or.inr (Or.inr rfl)
        · exact Or.inl rfl
    exact ⟨Nat.le_of_ble_eq_true rfl, R_L_pounds_0 R (an o0 ⟨rfl, s, hM, fun M2 cf h2 => cq_two ea (fun z => an (ak_of sh336 (by decide) (by decide)) (R_L_pounds_23 R (l_yes (cd := cd2) rfl z cf h2 hQ rfl))) (fun z _ => R_L_pounds_15 R (l_no (cd := cd2) (by decide) z cf h2 hQ rfl)) (fun z _ => R_L_pounds_19 R (l_no (cd := cd2) (by decide) z cf h2 hQ rfl))⟩)⟩
  · exact h.elim
theorem P_L_power {J : JT} {Q : QT} (R : R_L_power J Q) {as : List Vl} {M : Mem} (h : nf G_L_power as M Q) : (enL as).length ≤ 4 ∧ J 0 (padL 4 (enL as)) [] M := by
  unfold nf G_L_power at h
  split at h
  · rename_i k x1 o
    obtain ⟨⟨rfl, rfl⟩, s, hM, hQ⟩ := h
    have ea : (an_power x1 s).1 = 0 ∨ (an_power x1 s).1 = 1 := by
      unfold an_power
      split
      · exact Or.inr rfl
      · exact Or.inl rfl
    exact ⟨Nat.le_of_ble_eq_true rfl, R_L_power_0 R (an o0 ⟨rfl, s, hM, fun M2 cf h2 => cq_one 1 ea (fun z => an (ak_of sh336 (by decide) (by decide)) (R_L_power_15 R (l_yes (cd := cd1) rfl z cf h2 hQ rfl))) (fun z _ => R_L_power_12 R (l_no (cd := cd1) (by decide) z cf h2 hQ rfl))⟩)⟩
  · exact h.elim
theorem P_L_speech {J : JT} {Q : QT} (R : R_L_speech J Q) {as : List Vl} {M : Mem} (h : nf G_L_speech as M Q) : (enL as).length ≤ 5 ∧ J 0 (padL 5 (enL as)) [] M := by
  unfold nf G_L_speech at h
  split at h
  · rename_i k x1 x2 o
    obtain ⟨⟨rfl, rfl⟩, s, hM, hQ⟩ := h
    have ea : (an_speech x1 x2 s).1 = 0 ∨ (an_speech x1 x2 s).1 = 1 ∨ (an_speech x1 x2 s).1 = 2 := by
      unfold an_speech
      split
      · exact Or.inr (Or.inl rfl)
      · split
        · exact Or.inr (Or.inr rfl)
        · exact Or.inl rfl
    have bo : (an_speech x1 x2 s).1 = 0 → (an_speech x1 x2 s).2.1 = 0 ∨ (an_speech x1 x2 s).2.1 = 1 := by
      unfold an_speech
      intro z
      split at z
      · exact absurd z (Nat.succ_ne_zero _)
      · split at z
        · exact absurd z (Nat.succ_ne_zero _)
        · rename_i q q2
          rw [if_neg q, if_neg q2]
          show (if _ then (1 : Int) else 0) = 0 ∨ (if _ then (1 : Int) else 0) = 1
          split
          · exact Or.inr rfl
          · exact Or.inl rfl
    refine ⟨Nat.le_of_ble_eq_true rfl, R_L_speech_0 R (an o0 ⟨rfl, s, hM, fun M2 cf h2 => cq_two ea (fun z => ?_) (fun z _ => R_L_speech_20 R (l_no (cd := cd2) (by decide) z cf h2 hQ rfl)) (fun z _ => R_L_speech_24 R (l_no (cd := cd2) (by decide) z cf h2 hQ rfl))⟩)⟩
    rcases bo z with y | y
    · show ((an_speech x1 x2 s).2.1 = 0 → _) ∧ (¬ (an_speech x1 x2 s).2.1 = 0 → _)
      rw [y]
      exact bt rfl (R_L_speech_15 R (R_L_speech_16 R (an (ak_of sh336 (by decide) (by decide)) (R_L_speech_28 R (l_yes (cd := cd2) rfl z cf h2 hQ y.symm)))))
    · show ((an_speech x1 x2 s).2.1 = 0 → _) ∧ (¬ (an_speech x1 x2 s).2.1 = 0 → _)
      rw [y]
      exact bf (by decide) (R_L_speech_16 R (an (ak_of sh336 (by decide) (by decide)) (R_L_speech_28 R (l_yes (cd := cd2) rfl z cf h2 hQ y.symm))))
  · exact h.elim
theorem P_L_spent {J : JT} {Q : QT} (R : R_L_spent J Q) {as : List Vl} {M : Mem} (h : nf G_L_spent as M Q) : (enL as).length ≤ 4 ∧ J 0 (padL 4 (enL as)) [] M := by
  unfold nf G_L_spent at h
  split at h
  · rename_i k x1 o
    obtain ⟨⟨rfl, rfl⟩, s, hM, hQ⟩ := h
    have ea : (an_spent x1 s).1 = 0 ∨ (an_spent x1 s).1 = 1 := by
      unfold an_spent
      split
      · exact Or.inr rfl
      · exact Or.inl rfl
    exact ⟨Nat.le_of_ble_eq_true rfl, R_L_spent_0 R (an o0 ⟨rfl, s, hM, fun M2 cf h2 => cq_one 1 ea (fun z => an (ak_of sh336 (by decide) (by decide)) (R_L_spent_15 R (l_yes (cd := cd1) rfl z cf h2 hQ rfl))) (fun z _ => R_L_spent_12 R (l_no (cd := cd1) (by decide) z cf h2 hQ rfl))⟩)⟩
  · exact h.elim
theorem P_L_sums {J : JT} {Q : QT} (R : R_L_sums J Q) {as : List Vl} {M : Mem} (h : nf G_L_sums as M Q) : (enL as).length ≤ 5 ∧ J 0 (padL 5 (enL as)) [] M := by
  unfold nf G_L_sums at h
  split at h
  · rename_i k x1 x2 o
    obtain ⟨⟨rfl, rfl⟩, s, hM, hQ⟩ := h
    have ea : (an_sums x1 x2 s).1 = 0 ∨ (an_sums x1 x2 s).1 = 2 := by
      unfold an_sums
      split
      · exact Or.inr rfl
      · exact Or.inl rfl
    exact ⟨Nat.le_of_ble_eq_true rfl, R_L_sums_0 R (an o0 ⟨rfl, s, hM, fun M2 cf h2 => cq_one 2 ea (fun z => an (ak_of sh336 (by decide) (by decide)) (R_L_sums_17 R (l_yes (cd := cd1) rfl z cf h2 hQ rfl))) (fun z _ => R_L_sums_13 R (l_no (cd := cd1) (by decide) z cf h2 hQ rfl))⟩)⟩
  · exact h.elim
theorem P_L_thing {J : JT} {Q : QT} (R : R_L_thing J Q) {as : List Vl} {M : Mem} (h : nf G_L_thing as M Q) : (enL as).length ≤ 5 ∧ J 0 (padL 5 (enL as)) [] M := by
  unfold nf G_L_thing at h
  split at h
  · rename_i k x1 x2 o
    obtain ⟨⟨rfl, rfl⟩, s, hM, hQ⟩ := h
    have ea : (an_thing x1 x2 s).1 = 0 ∨ (an_thing x1 x2 s).1 = 1 ∨ (an_thing x1 x2 s).1 = 2 := by
      unfold an_thing
      split
      · exact Or.inr (Or.inl rfl)
      · split
        · exact Or.inr (Or.inr rfl)
        · exact Or.inl rfl
    exact ⟨Nat.le_of_ble_eq_true rfl, R_L_thing_0 R (an o0 ⟨rfl, s, hM, fun M2 cf h2 => cq_two ea (fun z => an (ak_of sh336 (by decide) (by decide)) (R_L_thing_21 R (l_yes (cd := cd2) rfl z cf h2 hQ rfl))) (fun z _ => R_L_thing_13 R (l_no (cd := cd2) (by decide) z cf h2 hQ rfl)) (fun z _ => R_L_thing_17 R (l_no (cd := cd2) (by decide) z cf h2 hQ rfl))⟩)⟩
  · exact h.elim
theorem P_L_tired {J : JT} {Q : QT} (R : R_L_tired J Q) {as : List Vl} {M : Mem} (h : nf G_L_tired as M Q) : (enL as).length ≤ 4 ∧ J 0 (padL 4 (enL as)) [] M := by
  unfold nf G_L_tired at h
  split at h
  · rename_i k x1 o
    obtain ⟨⟨rfl, rfl⟩, s, hM, hQ⟩ := h
    have ea : (an_tired x1 s).1 = 0 ∨ (an_tired x1 s).1 = 1 := by
      unfold an_tired
      split
      · exact Or.inr rfl
      · exact Or.inl rfl
    exact ⟨Nat.le_of_ble_eq_true rfl, R_L_tired_0 R (an o0 ⟨rfl, s, hM, fun M2 cf h2 => cq_one 1 ea (fun z => an (ak_of sh336 (by decide) (by decide)) (R_L_tired_15 R (l_yes (cd := cd1) rfl z cf h2 hQ rfl))) (fun z _ => R_L_tired_12 R (l_no (cd := cd1) (by decide) z cf h2 hQ rfl))⟩)⟩
  · exact h.elim
theorem P_L_told {J : JT} {Q : QT} (R : R_L_told J Q) {as : List Vl} {M : Mem} (h : nf G_L_told as M Q) : (enL as).length ≤ 4 ∧ J 0 (padL 4 (enL as)) [] M := by
  unfold nf G_L_told at h
  split at h
  · rename_i k x1 o
    obtain ⟨⟨rfl, rfl⟩, s, hM, hQ⟩ := h
    have ea : (an_told x1 s).1 = 0 ∨ (an_told x1 s).1 = 2 := by
      unfold an_told
      split
      · exact Or.inr rfl
      · exact Or.inl rfl
    exact ⟨Nat.le_of_ble_eq_true rfl, R_L_told_0 R (an o0 ⟨rfl, s, hM, fun M2 cf h2 => cq_one 2 ea (fun z => an (ak_of sh336 (by decide) (by decide)) (R_L_told_15 R (l_yes (cd := cd1) rfl z cf h2 hQ rfl))) (fun z _ => R_L_told_12 R (l_no (cd := cd1) (by decide) z cf h2 hQ rfl))⟩)⟩
  · exact h.elim
theorem P_L_unlike {J : JT} {Q : QT} (R : R_L_unlike J Q) {as : List Vl} {M : Mem} (h : nf G_L_unlike as M Q) : (enL as).length ≤ 5 ∧ J 0 (padL 5 (enL as)) [] M := by
  unfold nf G_L_unlike at h
  split at h
  · rename_i k x1 x2 o
    obtain ⟨⟨rfl, rfl⟩, s, hM, hQ⟩ := h
    have ea : (an_unlike x1 x2 s).1 = 0 ∨ (an_unlike x1 x2 s).1 = 2 := by
      unfold an_unlike
      split
      · exact Or.inr rfl
      · exact Or.inl rfl
    exact ⟨Nat.le_of_ble_eq_true rfl, R_L_unlike_0 R (an o0 ⟨rfl, s, hM, fun M2 cf h2 => cq_one 2 ea (fun z => an (ak_of sh336 (by decide) (by decide)) (R_L_unlike_17 R (l_yes (cd := cd1) rfl z cf h2 hQ rfl))) (fun z _ => R_L_unlike_13 R (l_no (cd := cd1) (by decide) z cf h2 hQ rfl))⟩)⟩
  · exact h.elim
theorem P_L_vote {J : JT} {Q : QT} (R : R_L_vote J Q) {as : List Vl} {M : Mem} (h : nf G_L_vote as M Q) : (enL as).length ≤ 6 ∧ J 0 (padL 6 (enL as)) [] M := by
  unfold nf G_L_vote at h
  split at h
  · rename_i k x1 x2 x3 o
    obtain ⟨⟨rfl, rfl⟩, s, hM, hQ⟩ := h
    have ea : (an_vote x1 x2 x3 s).1 = 0 ∨ (an_vote x1 x2 x3 s).1 = 2 := by
      unfold an_vote
      split
      · exact Or.inr rfl
      · exact Or.inl (by split <;> rfl)
    exact ⟨Nat.le_of_ble_eq_true rfl, R_L_vote_0 R (an o0 ⟨rfl, s, hM, fun M2 cf h2 => cq_one 2 ea (fun z => an (ak_of sh336 (by decide) (by decide)) (R_L_vote_19 R (l_yes (cd := cd1) rfl z cf h2 hQ rfl))) (fun z _ => R_L_vote_15 R (l_no (cd := cd1) (by decide) z cf h2 hQ rfl))⟩)⟩
  · exact h.elim
theorem P_L_wins {J : JT} {Q : QT} (R : R_L_wins J Q) {as : List Vl} {M : Mem} (h : nf G_L_wins as M Q) : (enL as).length ≤ 4 ∧ J 0 (padL 4 (enL as)) [] M := by
  unfold nf G_L_wins at h
  split at h
  · rename_i k x1 o
    obtain ⟨⟨rfl, rfl⟩, s, hM, hQ⟩ := h
    have ea : (an_wins x1 s).1 = 0 ∨ (an_wins x1 s).1 = 2 := by
      unfold an_wins
      split
      · exact Or.inr rfl
      · exact Or.inl rfl
    have bo : (an_wins x1 s).1 = 0 → (an_wins x1 s).2.1 = 0 ∨ (an_wins x1 s).2.1 = 1 := by
      unfold an_wins
      intro z
      split at z
      · exact absurd z (Nat.succ_ne_zero _)
      · rename_i q
        rw [if_neg q]
        show (if _ then (1 : Int) else 0) = 0 ∨ (if _ then (1 : Int) else 0) = 1
        split
        · exact Or.inr rfl
        · exact Or.inl rfl
    refine ⟨Nat.le_of_ble_eq_true rfl, R_L_wins_0 R (an o0 ⟨rfl, s, hM, fun M2 cf h2 => cq_one 2 ea (fun z => ?_) (fun z _ => R_L_wins_19 R (l_no (cd := cd1) (by decide) z cf h2 hQ rfl))⟩)⟩
    rcases bo z with y | y
    · show ((an_wins x1 s).2.1 = 0 → _) ∧ (¬ (an_wins x1 s).2.1 = 0 → _)
      rw [y]
      exact bt rfl (R_L_wins_14 R (R_L_wins_15 R (an (ak_of sh336 (by decide) (by decide)) (R_L_wins_22 R (l_yes (cd := cd1) rfl z cf h2 hQ y.symm)))))
    · show ((an_wins x1 s).2.1 = 0 → _) ∧ (¬ (an_wins x1 s).2.1 = 0 → _)
      rw [y]
      exact bf (by decide) (R_L_wins_15 R (an (ak_of sh336 (by decide) (by decide)) (R_L_wins_22 R (l_yes (cd := cd1) rfl z cf h2 hQ y.symm))))

  · exact h.elim