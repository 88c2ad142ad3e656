theorem c_st {M M' : Mem} {s' : AS} {Q : QT} {a : An} {v : Int} (ha : a = (0, v, s')) (hM : Cls M' s') (cf : CF M M') {r : Int} (hr : r = v) (hQ : ∀ M', CF M M' → Cls M' a.2.2 → cQ a Q M') : Q (.inl (some (vI r))) M' := by
  subst ha
  subst hr
  exact hQ M' cf hM
def F_X10_bring : FT := fun as M Q => match as with
  | [.inr (.inl k), .inl d, .inl mi] => k = 0 ∧ cS (an_bring d mi) M Q
  | _ => False
def G_X10_forget : FN := fun as M Q => match as with
  | [.inr (.inl k)] => k = 0 ∧ cN an_forget M Q
  | _ => False
def F_X10_vote : FT := fun as M Q => match as with
  | [.inr (.inl k), .inl f, .inl g, .inl more] => k = 0 ∧ cS (an_vote f g more) M Q
  | _ => False
def b_X10_bring_0 : List AT := [tx_al 0, tx_il 1, tx_ifz r_lt 20, tx_il 1, tx_al 0, tx_gm 10 1, tx_gi 6 8, tx_cmp r_ge 20, tx_ic 1, tx_fall 21]
def b_X10_bring_20 : List AT := [tx_ic 0, tx_fall 21]
def b_X10_bring_21 : List AT := [tx_callv 10 F_X10_needElement 1, tx_al 0, tx_il 2, tx_ifz r_lt 40, tx_il 2, tx_ic 999, tx_cmp r_gt 40, tx_ic 1, tx_fall 41]
def b_X10_bring_40 : List AT := [tx_ic 0, tx_fall 41]
def b_X10_bring_41 : List AT := [tx_callv 10 F_X10_needArgument 1, tx_al 0, tx_gr 10 122, tx_al 0, tx_gm 10 1, tx_il 1, tx_il 2, tx_callv 1 (nf G_X1_mostPounds) 3, tx_ri]
def R_X10_bring (J : JT) (Q : QT) : Prop := (∀ ls st M, wpl J Q b_X10_bring_0 ls st M → J 0 ls st M) ∧ (∀ ls st M, wpl J Q b_X10_bring_20 ls st M → J 20 ls st M) ∧ (∀ ls st M, wpl J Q b_X10_bring_21 ls st M → J 21 ls st M) ∧ (∀ ls st M, wpl J Q b_X10_bring_40 ls st M → J 40 ls st M) ∧ (∀ ls st M, wpl J Q b_X10_bring_41 ls st M → J 41 ls st M)
theorem R_X10_bring_0 {J : JT} {Q : QT} (R : R_X10_bring J Q) {ls : Ls} {st : St} {M : Mem} (h : wpl J Q b_X10_bring_0 ls st M) : J 0 ls st M := R.1 ls st M h
theorem R_X10_bring_20 {J : JT} {Q : QT} (R : R_X10_bring J Q) {ls : Ls} {st : St} {M : Mem} (h : wpl J Q b_X10_bring_20 ls st M) : J 20 ls st M := R.2.1 ls st M h
theorem R_X10_bring_21 {J : JT} {Q : QT} (R : R_X10_bring J Q) {ls : Ls} {st : St} {M : Mem} (h : wpl J Q b_X10_bring_21 ls st M) : J 21 ls st M := R.2.2.1 ls st M h
theorem R_X10_bring_40 {J : JT} {Q : QT} (R : R_X10_bring J Q) {ls : Ls} {st : St} {M : Mem} (h : wpl J Q b_X10_bring_40 ls st M) : J 40 ls st M := R.2.2.2.1 ls st M h
theorem R_X10_bring_41 {J : JT} {Q : QT} (R : R_X10_bring J Q) {ls : Ls} {st : St} {M : Mem} (h : wpl J Q b_X10_bring_41 ls st M) : J 41 ls st M := R.2.2.2.2 ls st M h
def b_X10_forget_0 : List AT := [tx_al 0, tx_gr 10 35, tx_gi 0 0, tx_is 1, tx_al 0, tx_gr 10 35, tx_callv 0 (nf G_X0_clear) 0, tx_al 0, tx_callv 10 (nf G_X10_startAnew) 0, tx_il 1, tx_ri]
def R_X10_forget (J : JT) (Q : QT) : Prop := (∀ ls st M, wpl J Q b_X10_forget_0 ls st M → J 0 ls st M)
theorem R_X10_forget_0 {J : JT} {Q : QT} (R : R_X10_forget J Q) {ls : Ls} {st : St} {M : Mem} (h : wpl J Q b_X10_forget_0 ls st M) : J 0 ls st M := R ls st M h
def b_X10_vote_0 : List AT := [tx_al 0, tx_al 0, tx_gm 10 1, tx_il 1, tx_callv 6 (nf G_X6_hasPersons) 1, tx_ifz r_eq 47, tx_al 0, tx_gm 10 1, tx_il 2, tx_callv 6 (nf G_X6_hasPersons) 1, tx_ifz r_eq 47, tx_il 1, tx_il 2, tx_bin andI, tx_ifz r_ne 47, tx_il 3, tx_ic (-9999), tx_cmp r_lt 47, tx_il 3, tx_ic 9999, tx_cmp r_gt 47, tx_ic 1, tx_fall 48]
def b_X10_vote_47 : List AT := [tx_ic 0, tx_fall 48]
def b_X10_vote_48 : List AT := [tx_callv 10 F_X10_needArgument 1, tx_al 0, tx_gr 10 35, tx_gi 0 0, tx_ic 9, tx_cmp r_lt 65, tx_ic (-1), tx_ri]
def b_X10_vote_65 : List AT := [tx_al 0, tx_gr 10 35, tx_il 1, tx_il 2, tx_il 3, tx_callv 0 (nf G_X0_add) 3, tx_al 0, tx_callv 10 (nf G_X10_startAnew) 0, tx_al 0, tx_gr 10 35, tx_gi 0 0, tx_ri]
def R_X10_vote (J : JT) (Q : QT) : Prop := (∀ ls st M, wpl J Q b_X10_vote_0 ls st M → J 0 ls st M) ∧ (∀ ls st M, wpl J Q b_X10_vote_47 ls st M → J 47 ls st M) ∧ (∀ ls st M, wpl J Q b_X10_vote_48 ls st M → J 48 ls st M) ∧ (∀ ls st M, wpl J Q b_X10_vote_65 ls st M → J 65 ls st M)
theorem R_X10_vote_0 {J : JT} {Q : QT} (R : R_X10_vote J Q) {ls : Ls} {st : St} {M : Mem} (h : wpl J Q b_X10_vote_0 ls st M) : J 0 ls st M := R.1 ls st M h
theorem R_X10_vote_47 {J : JT} {Q : QT} (R : R_X10_vote J Q) {ls : Ls} {st : St} {M : Mem} (h : wpl J Q b_X10_vote_47 ls st M) : J 47 ls st M := R.2.1 ls st M h
theorem R_X10_vote_48 {J : JT} {Q : QT} (R : R_X10_vote J Q) {ls : Ls} {st : St} {M : Mem} (h : wpl J Q b_X10_vote_48 ls st M) : J 48 ls st M := R.2.2.1 ls st M h
theorem R_X10_vote_65 {J : JT} {Q : QT} (R : R_X10_vote J Q) {ls : Ls} {st : St} {M : Mem} (h : wpl J Q b_X10_vote_65 ls st M) : J 65 ls st M := R.2.2.2 ls st M h
theorem P_X10_bring {J : JT} {Q : QT} (R : R_X10_bring J Q) {as : List Vl} {M : Mem} (h : F_X10_bring as M Q) : (enL as).length ≤ 3 ∧ J 0 (padL 3 (enL as)) [] M := by
  unfold F_X10_bring at h
  split at h
  · rename_i k d mi
    obtain ⟨rfl, s, hM, hQ⟩ := h
    have hpl := hM.pl
    have hk := hpl.1
    have hp := hpl.2.1
    have ho := hpl.2.2
    have at41 : (0 ≤ d ∧ d < s.1 10 3) → ∀ b : Int, (b = 1 ∧ (0 ≤ mi ∧ mi ≤ 999)) ∨ (b = 0 ∧ ¬ (0 ≤ mi ∧ mi ≤ 999)) → J 41 [some (vR 0), some (vI d), some (vI mi)] [vI b, vR 0] M := by
      intro c1 b hb
      rcases hb with ⟨rfl, c2⟩ | ⟨rfl, c2⟩
      · have ea : an_bring d mi s = _ := (if_neg (fun z => z c1)).trans (if_neg (fun z => z c2))
        exact R_X10_bring_41 R (an o0 ⟨rfl, fun _ => an o0 (an o0 (an o122 ⟨s.1, rfl, hpl, c2, fun M' v f hv => c_yes ea (hM.kept (fun u v hu => f u v (by omega))) (fun u v hu => f u v (by omega)) (brF_eq ho hv) hQ⟩)), fun z => absurd z (by decide)⟩)
      · exact R_X10_bring_41 R (an o0 ⟨rfl, fun z => absurd rfl z, fun _ => c_no (Q := Q) hM 2 (by decide) ((if_neg (fun z => z c1)).trans (if_pos c2)) (CF.rf M) hQ⟩)
    have at21 : ∀ b : Int, (b = 1 ∧ (0 ≤ d ∧ d < s.1 10 3)) ∨ (b = 0 ∧ ¬ (0 ≤ d ∧ d < s.1 10 3)) → J 21 [some (vR 0), some (vI d), some (vI mi)] [vI b, vR 0] M := by
      intro b hb
      rcases hb with ⟨rfl, c1⟩ | ⟨rfl, c1⟩
      · exact R_X10_bring_21 R (an o0 ⟨rfl, fun _ => br (fun (g1 : mi < 0) => R_X10_bring_40 R (at41 c1 0 (Or.inr ⟨rfl, by omega⟩))) (fun g1 => br (fun (g2 : 999 < mi) => R_X10_bring_40 R (at41 c1 0 (Or.inr ⟨rfl, by omega⟩))) (fun g2 => at41 c1 1 (Or.inl ⟨rfl, by omega⟩))), fun z => absurd z (by decide)⟩)
      · exact R_X10_bring_21 R (an o0 ⟨rfl, fun z => absurd rfl z, fun _ => c_no (Q := Q) hM 1 (by decide) (if_pos c1) (CF.rf M) hQ⟩)
    have ed : M (M 0 1).toNat 8 = s.1 10 3 := hp.2.2.1
    refine ⟨Nat.le_of_ble_eq_true rfl, R_X10_bring_0 R (br (fun (g1 : d < 0) => R_X10_bring_20 R (at21 0 (Or.inr ⟨rfl, by omega⟩))) (fun g1 => an o0 (an (pl_ob hk) ?_)))⟩
    rw [ed]
    exact br (fun (g2 : s.1 10 3 ≤ d) => R_X10_bring_20 R (at21 0 (Or.inr ⟨rfl, by omega⟩))) (fun g2 => at21 1 (Or.inl ⟨rfl, by omega⟩))
  · exact h.elim
theorem P_X10_forget {J : JT} {Q : QT} (R : R_X10_forget J Q) {as : List Vl} {M : Mem} (h : nf G_X10_forget as M Q) : (enL as).length ≤ 2 ∧ J 0 (padL 2 (enL as)) [] M := by
  unfold nf G_X10_forget at h
  split at h
  · rename_i k
    obtain ⟨rfl, s, hM, hQ⟩ := h
    have e6 : M 35 0 = s.1 10 6 := hM.2.2.2.1.1.1
    refine ⟨Nat.le_of_ble_eq_true rfl, R_X10_forget_0 R (an o0 (an o35 (an o0 (an o35 ⟨Or.inl rfl, an o0 ⟨rfl, ?_⟩⟩))))⟩
    rw [e6]
    have fr : ∀ u v, ¬ (u = 35 ∧ v = 0) → ¬ (u = 41 ∧ v = 4) → ¬ (u = 129 ∧ v = 0) → up (up (up M 35 0 0) 41 4 0) 129 0 0 u v = M u v := fun u v a b c => by rw [up_ne (by omega), up_ne (by omega), up_ne (by omega)]
    have sh : SameH (up s.1 10 6 0) s.1 := ⟨fun u v h => up_ne (by omega), fun v h => up_ne (by omega)⟩
    have z6 : up s.1 10 6 0 10 6 = 0 := up_eq
    refine hQ _ (fun u v hu => fr u v (by omega) (by omega) (by omega)) (hM.new (B := up s.1 10 6 0) sh ((hM.1.kept (fun u v a b c => fr u v (by omega) (by omega) (by omega))).same sh (up_ne (by omega)) (fun u v a b => up_ne (by omega))) (fun v hv => fr 0 v (by omega) (by omega) (by omega)) ?_ ?_ ?_ (fun u v hu => fr u v (by omega) (by omega) (by omega)) ?_ ?_)
    · rw [fr 0 3 (by omega) (by omega) (by omega), fr 0 4 (by omega) (by omega) (by omega)]; exact hM.2.2.1
    · rw [z6]
      exact ⟨by rw [up_ne (by omega), up_ne (by omega), up_eq], fun i hi => by simp at hi⟩
    · rw [z6]
      exact ⟨by decide, fun i hi => by simp at hi⟩
    · rw [up_ne (by omega), up_eq]
    · rw [up_eq]
  · exact h.elim
theorem P_X10_vote {J : JT} {Q : QT} (R : R_X10_vote J Q) {as : List Vl} {M : Mem} (h : F_X10_vote as M Q) : (enL as).length ≤ 4 ∧ J 0 (padL 4 (enL as)) [] M := by
  unfold F_X10_vote at h
  split at h
  · rename_i k f g more
    obtain ⟨rfl, s, hM, hQ⟩ := h
    have hpl := hM.pl
    have hk := hpl.1
    have e6 : M 35 0 = s.1 10 6 := hM.2.2.2.1.1.1
    have v9 := hM.2.2.2.1.2.1
    have no2 : ¬ voC s.1 f g more → an_vote f g more s = nay s 2 := fun c => if_pos (fun z => c (tf_iff.mp z))
    have atB : ∀ b : Int, (b = 1 ∧ voC s.1 f g more) ∨ (b = 0 ∧ ¬ voC s.1 f g more) → J 48 [some (vR 0), some (vI f), some (vI g), some (vI more)] [vI b, vR 0] M := by
      intro b hb
      rcases hb with ⟨rfl, c2⟩ | ⟨rfl, c2⟩
      · have ea : an_vote f g more s = _ := if_neg (fun z => z (tf_iff.mpr c2))
        refine R_X10_vote_48 R (an o0 ⟨rfl, fun _ => an o0 (an o35 (br (fun z => R_X10_vote_65 R ?_) (fun z => ?_))), fun z => absurd z (by decide)⟩)
        · rw [e6] at z
          have n9 : ¬ s.1 10 6 = 9 := by omega
          have ea := ea.trans (if_neg n9)
          refine an o0 (an o35 ⟨⟨rfl, by omega, by omega⟩, fun M' f1 n1 a1 a2 a3 => an o0 ⟨rfl, an o0 (an o35 ?_)⟩⟩)
          rw [e6] at f1 n1 a1 a2 a3
          obtain ⟨w1', sh, w3, w4, w5, w6, w7, w8⟩ := voA_ok hM.2.2.2.1.2 n9 c2
          have fr : ∀ u v, ¬ (35 ≤ u ∧ u ≤ 38) → ¬ (u = 41 ∧ v = 4) → ¬ (u = 129 ∧ v = 0) → up (up M' 41 4 0) 129 0 0 u v = M u v := fun u v a b c => by rw [up_ne (by omega), up_ne (by omega), f1 u v (by omega) (by omega)]
          have fb : ∀ u v, u ≤ 38 → up (up M' 41 4 0) 129 0 0 u v = M' u v := fun u v a => by rw [up_ne (by omega), up_ne (by omega)]
          refine c_st ea (hM.new (B := voA s.1 f g more) sh ((hM.1.kept (fun u v a b c => fr u v (by omega) (by omega) (by omega))).same sh w7 w8) (fun v hv => fr 0 v (by omega) (by omega) (by omega)) ?_ ?_ w1' (fun u v hu => fr u v (by omega) (by omega) (by omega)) ?_ ?_) (fun u v hu => fr u v (by omega) (by omega) (by omega)) ?_ hQ
          · rw [fr 0 3 (by omega) (by omega) (by omega), fr 0 4 (by omega) (by omega) (by omega)]; exact hM.2.2.1
          · refine ⟨by rw [fb _ _ (by omega), n1, w3], fun i hi => ?_⟩
            have hi' : i < nV s.1 + 1 := by rw [← w4]; exact hi
            rw [fb _ _ (by omega), fb _ _ (by omega), fb _ _ (by omega)]
            by_cases q : i = nV s.1
            · subst q
              exact ⟨a1.trans w6.1.symm, a2.trans w6.2.1.symm, a3.trans w6.2.2.symm⟩
            · obtain ⟨x1, x2, x3⟩ := w5 i (by omega)
              obtain ⟨y1, y2, y3⟩ := hM.2.2.2.1.1.2 i (show i < nV s.1 by omega)
              have q : ¬ i = (s.1 10 6).toNat := q
              exact ⟨(f1 36 i (by omega) (by omega)).trans (y1.trans x1.symm), (f1 37 i (by omega) (by omega)).trans (y2.trans x2.symm), (f1 38 i (by omega) (by omega)).trans (y3.trans x3.symm)⟩
          · rw [up_ne (by omega), up_eq]
          · rw [up_eq]
          · show up (up M' 41 4 0) 129 0 0 35 0 = s.1 10 6 + 1
            rw [fb _ _ (by omega), n1]
        · have z : ¬ M 35 0 < 9 := z
          rw [e6] at z
          exact c_yes (ea.trans (if_pos (by omega))) hM (CF.rf M) rfl hQ
      · exact R_X10_vote_48 R (an o0 ⟨rfl, fun z => absurd rfl z, fun _ => c_no (Q := Q) hM 2 (by decide) (no2 c2) (CF.rf M) hQ⟩)
    have bad : ¬ voC s.1 f g more → J 47 [some (vR 0), some (vI f), some (vI g), some (vI more)] [vR 0] M := fun c => R_X10_vote_47 R (atB 0 (Or.inr ⟨rfl, c⟩))
    have al : ∀ x : Int, (0 ≤ x ∧ x < ((2 ^ nP s.1 : Nat) : Int)) ↔ (0 ≤ x ∧ x ≤ allB s.1) := fun x => by unfold allB; omega
    refine ⟨Nat.le_of_ble_eq_true rfl, R_X10_vote_0 R (an o0 (an (pl_ob hk) ⟨s.1, hpl, br (fun d1 => bf (by decide) (an o0 (an (pl_ob hk) ⟨s.1, hpl, br (fun d2 => bf (by decide) ?_) (fun d2 => bt rfl (bad (fun z => d2 ((al g).mpr z.1.2))))⟩))) (fun d1 => bt rfl (bad (fun z => d1 ((al f).mpr z.1.1))))⟩))⟩
    exact br (fun d3 => bad (fun z => d3 z.2.1)) (fun d3 => br (fun (d4 : more < -9999) => bad (fun z => by have := z.2.2; omega)) (fun (d4 : ¬ more < -9999) => br (fun (d5 : 9999 < more) => bad (fun z => by have := z.2.2; omega)) (fun (d5 : ¬ 9999 < more) => atB 1 (Or.inl ⟨rfl, ⟨(al f).mp d1, (al g).mp d2⟩, Classical.not_not.mp d3, by omega, by omega⟩))))

  · exact h.elim