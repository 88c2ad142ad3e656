def CuR (M Ab : Mem) : Prop := ((M 0 1).toNat = 3 ∨ (M 0 1).toNat = 14) ∧ ((M 0 3).toNat = 25 ∨ (M 0 3).toNat = 30) ∧ PlanRel M (M 0 1).toNat Ab ∧ LoanRel M (M 0 3).toNat Ab 11 (Ab 10 5) ∧ HallOK Ab ∧ LoanOK Ab 11 (Ab 10 5)
def CuK (M Ab : Mem) : Prop := ChrRel M Ab ∧ (M 42 0).toNat = (M 0 1).toNat ∧ (M 42 1).toNat = (M 0 3).toNat
def G_X10_chronicled : FN := fun as M Q => match as with
  | [.inr (.inl k)] => ∃ Ab, k = 0 ∧ CuR M Ab ∧ (¬ M 41 4 = 0 → CuK M Ab) ∧ ∀ M' : Mem, (∀ u v, (u < 41 ∨ (42 < u ∧ u < 59) ∨ 68 < u) → M' u v = M u v) → ¬ M' 41 4 = 0 → CuK M' Ab → Q (some (vR 41)) M'
  | _ => False
def G_X10_startAnew : FN := fun as M Q => match as with
  | [.inr (.inl k)] => k = 0 ∧ Q none (up (up M 41 4 0) 129 0 0)
  | _ => False
def G_X10_pauseFrom : FN := fun as M Q => match as with
  | [.inr (.inl k), .inl n] => ∃ Ab, (k = 0 ∧ 0 ≤ n ∧ n ≤ 999) ∧ CuR M Ab ∧ ∀ M' : Mem, (∀ u v, (u < 69 ∨ (69 < u ∧ u < 86) ∨ 92 < u) → M' u v = M u v) → SP M' 69 Ab → SitRel M' 69 Ab (-1) (run Ab (-1) n.toNat) → Q none M'
  | _ => False
def b_X10_chronicled_0 : List AT := [tx_al 0, tx_gr 10 41, tx_gi 3 4, tx_ifz r_ne 25, tx_al 0, tx_gr 10 41, tx_al 0, tx_gm 10 1, tx_al 0, tx_gm 10 3, tx_callv 3 (nf G_X3_goThroughAll) 2, tx_fall 25]
def b_X10_chronicled_25 : List AT := [tx_al 0, tx_gr 10 41, tx_ra]
def R_X10_chronicled (J : JT) (Q : QT) : Prop := (∀ ls st M, wpl J Q b_X10_chronicled_0 ls st M → J 0 ls st M) ∧ (∀ ls st M, wpl J Q b_X10_chronicled_25 ls st M → J 25 ls st M)
theorem R_X10_chronicled_0 {J : JT} {Q : QT} (R : R_X10_chronicled J Q) {ls : Ls} {st : St} {M : Mem} (h : wpl J Q b_X10_chronicled_0 ls st M) : J 0 ls st M := R.1 ls st M h
theorem R_X10_chronicled_25 {J : JT} {Q : QT} (R : R_X10_chronicled J Q) {ls : Ls} {st : St} {M : Mem} (h : wpl J Q b_X10_chronicled_25 ls st M) : J 25 ls st M := R.2 ls st M h
def b_X10_startAnew_0 : List AT := [tx_al 0, tx_gr 10 41, tx_ic 0, tx_pz 3 4, tx_al 0, tx_gr 10 129, tx_ic 0, tx_pz 4 0, tx_rv]
def R_X10_startAnew (J : JT) (Q : QT) : Prop := (∀ ls st M, wpl J Q b_X10_startAnew_0 ls st M → J 0 ls st M)
theorem R_X10_startAnew_0 {J : JT} {Q : QT} (R : R_X10_startAnew J Q) {ls : Ls} {st : St} {M : Mem} (h : wpl J Q b_X10_startAnew_0 ls st M) : J 0 ls st M := R ls st M h
def b_X10_pauseFrom_0 : List AT := [tx_al 0, tx_gr 10 69, tx_al 0, tx_gm 10 1, tx_al 0, tx_gm 10 3, tx_ic (-1), tx_callv 8 (nf G_X8_begin) 3, tx_ic 0, tx_is 2, tx_fall 18]
def b_X10_pauseFrom_18 : List AT := [tx_il 2, tx_il 1, tx_cmp r_ge 38, tx_al 0, tx_gr 10 69, tx_il 2, tx_il 2, tx_callv 8 (nf G_X8_goThrough) 2, tx_inc 2 1, tx_fall 18]
def b_X10_pauseFrom_38 : List AT := [tx_rv]
def R_X10_pauseFrom (J : JT) (Q : QT) : Prop := (∀ ls st M, wpl J Q b_X10_pauseFrom_0 ls st M → J 0 ls st M) ∧ (∀ ls st M, wpl J Q b_X10_pauseFrom_18 ls st M → J 18 ls st M) ∧ (∀ ls st M, wpl J Q b_X10_pauseFrom_38 ls st M → J 38 ls st M)
theorem R_X10_pauseFrom_0 {J : JT} {Q : QT} (R : R_X10_pauseFrom J Q) {ls : Ls} {st : St} {M : Mem} (h : wpl J Q b_X10_pauseFrom_0 ls st M) : J 0 ls st M := R.1 ls st M h
theorem R_X10_pauseFrom_18 {J : JT} {Q : QT} (R : R_X10_pauseFrom J Q) {ls : Ls} {st : St} {M : Mem} (h : wpl J Q b_X10_pauseFrom_18 ls st M) : J 18 ls st M := R.2.1 ls st M h
theorem R_X10_pauseFrom_38 {J : JT} {Q : QT} (R : R_X10_pauseFrom J Q) {ls : Ls} {st : St} {M : Mem} (h : wpl J Q b_X10_pauseFrom_38 ls st M) : J 38 ls st M := R.2.2 ls st M h
theorem o0 : OB 0 10 := ⟨rfl, rfl⟩
theorem o69 : OB 69 8 := ⟨rfl, rfl⟩
theorem P_X10_startAnew {J : JT} {Q : QT} (R : R_X10_startAnew J Q) {as : List Vl} {M : Mem} (h : nf G_X10_startAnew as M Q) : (enL as).length ≤ 1 ∧ J 0 (padL 1 (enL as)) [] M := by
  unfold nf G_X10_startAnew at h
  split at h
  · rename_i k
    obtain ⟨rfl, hQ⟩ := h
    exact ⟨Nat.le_of_ble_eq_true rfl, R_X10_startAnew_0 R (an o0 (an o41 (an (Or.inl rfl) (an o0 (an o129 (an (Or.inl rfl) hQ))))))⟩
  · exact h.elim
theorem P_X10_chronicled {J : JT} {Q : QT} (R : R_X10_chronicled J Q) {as : List Vl} {M : Mem} (h : nf G_X10_chronicled as M Q) : (enL as).length ≤ 1 ∧ J 0 (padL 1 (enL as)) [] M := by
  unfold nf G_X10_chronicled at h
  split at h
  · rename_i k
    obtain ⟨Ab, rfl, ⟨c1, c2, c3, c4, c5, c6⟩, hc, hQ⟩ := h
    refine ⟨Nat.le_of_ble_eq_true rfl, R_X10_chronicled_0 R (an o0 (an o41 (br (fun q => R_X10_chronicled_25 R (an o0 (hQ M (fun _ _ _ => rfl) q (hc q)))) (fun q => an o0 (an o0 (an o0 (an o41 ⟨Ab, ⟨rfl, c1, c2⟩, c3, c4, c5, c6, fun M' h1 h2 h3 h4 h5 => R_X10_chronicled_25 R (an o0 (hQ M' h1 (by rw [h2]; decide) ⟨h5, by rw [h1 0 1 (by omega)]; exact h3, by rw [h1 0 3 (by omega)]; exact h4⟩))⟩)))))))⟩
  · exact h.elim
theorem P_X10_pauseFrom {J : JT} {Q : QT} (R : R_X10_pauseFrom J Q) {as : List Vl} {M : Mem} (h : nf G_X10_pauseFrom as M Q) : (enL as).length ≤ 3 ∧ J 0 (padL 3 (enL as)) [] M := by
  unfold nf G_X10_pauseFrom at h
  split at h
  · rename_i k n
    obtain ⟨Ab, ⟨rfl, n0, n1⟩, ⟨c1, c2, c3, c4, c5, c6⟩, hQ⟩ := h
    have key : ∀ i, i ≤ n.toNat → ∀ (x : Int) (M' : Mem), x = (i : Int) → (∀ u v, (u < 69 ∨ (69 < u ∧ u < 86) ∨ 92 < u) → M' u v = M u v) → SP M' 69 Ab → SitRel M' 69 Ab (-1) (run Ab (-1) i) → J 18 [some (vR 0), some (vI n), some (vI x)] [] M' := by
      refine dn ?_ ?_
      · intro x M' hx h1 h2 h3
        exact R_X10_pauseFrom_18 R (bt (show n ≤ x by omega) (R_X10_pauseFrom_38 R (hQ M' h1 h2 h3)))
      · intro i hi ih x M' hx h1 h2 h3
        subst hx
        exact R_X10_pauseFrom_18 R (bf (show ¬ n ≤ (i : Int) by omega) (an o0 (an o69 ⟨Ab, -1, run Ab (-1) i, h2, h3, runT_ok c5 c6 _ _ i (by omega), ⟨by omega, by omega⟩, fun M2 g1 g2 g3 g4 => ih _ M2 (wn rfl (by omega)) (fun u v hu => (g1 u v (by omega)).trans (h1 u v hu)) (h2.kept (fun u v hu => g1 u v (by omega))) g2⟩)))
    exact ⟨Nat.le_of_ble_eq_true rfl, R_X10_pauseFrom_0 R (an o0 (an o0 (an o0 (an o69 ⟨Ab, ⟨Or.inr (Or.inl rfl), c1, c2⟩, c3, c4, c5, c6, fun M' h1 h2 h3 h4 h5 => key 0 (Nat.zero_le _) _ M' rfl (fun u v hu => h1 u v (by omega)) h4 h5⟩))))⟩

  · exact h.elim