def G_X11_own : FN := fun as M Q => match as with
  | [.inr (.inl k), .inl p] => ∃ Ab, k = 159 ∧ MdP M Ab ∧ Q (some (vI (ownP Ab p))) M
  | _ => False
def G_X11_all : FN := fun as M Q => match as with
  | [.inr (.inl k)] => ∃ Ab, k = 159 ∧ MdP M Ab ∧ Q (some (vI (allP Ab))) M
  | _ => False
def b_X11_own_0 : List AT := [tx_ic 0, tx_is 2, tx_ic 0, tx_is 3, tx_fall 4]
def b_X11_own_4 : List AT := [tx_il 3, tx_al 0, tx_gr 11 4, tx_ic 1, tx_ia, tx_cmp r_ge 47, tx_il 2, tx_al 0, tx_gr 11 42, tx_il 3, tx_aa 5, tx_ic 0, tx_ia, tx_il 1, tx_cmp r_ne 38, tx_al 0, tx_gr 11 42, tx_il 3, tx_aa 5, tx_ic 1, tx_ia, tx_fall 39]
def b_X11_own_38 : List AT := [tx_ic 0, tx_fall 39]
def b_X11_own_39 : List AT := [tx_bin f_add, tx_is 2, tx_inc 3 1, tx_fall 4]
def b_X11_own_47 : List AT := [tx_il 2, tx_ri]
def R_X11_own (J : JT) (Q : QT) : Prop := (∀ ls st M, wpl J Q b_X11_own_0 ls st M → J 0 ls st M) ∧ (∀ ls st M, wpl J Q b_X11_own_4 ls st M → J 4 ls st M) ∧ (∀ ls st M, wpl J Q b_X11_own_38 ls st M → J 38 ls st M) ∧ (∀ ls st M, wpl J Q b_X11_own_39 ls st M → J 39 ls st M) ∧ (∀ ls st M, wpl J Q b_X11_own_47 ls st M → J 47 ls st M)
theorem R_X11_own_0 {J : JT} {Q : QT} (R : R_X11_own J Q) {ls : Ls} {st : St} {M : Mem} (h : wpl J Q b_X11_own_0 ls st M) : J 0 ls st M := R.1 ls st M h
theorem R_X11_own_4 {J : JT} {Q : QT} (R : R_X11_own J Q) {ls : Ls} {st : St} {M : Mem} (h : wpl J Q b_X11_own_4 ls st M) : J 4 ls st M := R.2.1 ls st M h
theorem R_X11_own_38 {J : JT} {Q : QT} (R : R_X11_own J Q) {ls : Ls} {st : St} {M : Mem} (h : wpl J Q b_X11_own_38 ls st M) : J 38 ls st M := R.2.2.1 ls st M h
theorem R_X11_own_39 {J : JT} {Q : QT} (R : R_X11_own J Q) {ls : Ls} {st : St} {M : Mem} (h : wpl J Q b_X11_own_39 ls st M) : J 39 ls st M := R.2.2.2.1 ls st M h
theorem R_X11_own_47 {J : JT} {Q : QT} (R : R_X11_own J Q) {ls : Ls} {st : St} {M : Mem} (h : wpl J Q b_X11_own_47 ls st M) : J 47 ls st M := R.2.2.2.2 ls st M h
def b_X11_all_0 : List AT := [tx_ic 0, tx_is 1, tx_ic 0, tx_is 2, tx_fall 4]
def b_X11_all_4 : List AT := [tx_il 2, tx_al 0, tx_gr 11 4, tx_ic 1, tx_ia, tx_cmp r_ge 31, tx_il 1, tx_al 0, tx_gr 11 42, tx_il 2, tx_aa 5, tx_ic 1, tx_ia, tx_bin f_add, tx_is 1, tx_inc 2 1, tx_fall 4]
def b_X11_all_31 : List AT := [tx_il 1, tx_ri]
def R_X11_all (J : JT) (Q : QT) : Prop := (∀ ls st M, wpl J Q b_X11_all_0 ls st M → J 0 ls st M) ∧ (∀ ls st M, wpl J Q b_X11_all_4 ls st M → J 4 ls st M) ∧ (∀ ls st M, wpl J Q b_X11_all_31 ls st M → J 31 ls st M)
theorem R_X11_all_0 {J : JT} {Q : QT} (R : R_X11_all J Q) {ls : Ls} {st : St} {M : Mem} (h : wpl J Q b_X11_all_0 ls st M) : J 0 ls st M := R.1 ls st M h
theorem R_X11_all_4 {J : JT} {Q : QT} (R : R_X11_all J Q) {ls : Ls} {st : St} {M : Mem} (h : wpl J Q b_X11_all_4 ls st M) : J 4 ls st M := R.2.1 ls st M h
theorem R_X11_all_31 {J : JT} {Q : QT} (R : R_X11_all J Q) {ls : Ls} {st : St} {M : Mem} (h : wpl J Q b_X11_all_31 ls st M) : J 31 ls st M := R.2.2 ls st M h
theorem o159 : OB 159 11 := ⟨rfl, rfl⟩
theorem sh163 : SH 163 = (1, 5, 0, 0) := rfl
theorem sh201 : SH 201 = (5, 14, 202, 1) := rfl
theorem th_row {x : Int} {i : Nat} (h : x.toNat = i) : (SH (159 + 42)).2.2.1 + (SH (159 + 42)).2.2.2 * x.toNat = 202 + i := by
  rw [h]
  show 202 + 1 * i = 202 + i
  omega
theorem sh_th : ∀ i, i < 14 → SH (202 + i) = (1, 4, 0, 0) := by decide
theorem P_X11_own {J : JT} {Q : QT} (R : R_X11_own J Q) {as : List Vl} {M : Mem} (h : nf G_X11_own as M Q) : (enL as).length ≤ 4 ∧ J 0 (padL 4 (enL as)) [] M := by
  unfold nf G_X11_own at h
  split at h
  · rename_i k p
    obtain ⟨Ab, rfl, hm, hQ⟩ := h
    obtain ⟨ho, ⟨-, m1, -⟩, -, ht, -⟩ := hm
    obtain ⟨n1, n2⟩ := nT_le ho
    have key : ∀ i, i ≤ nT Ab → ∀ x acc : Int, x = (i : Int) → acc = sumN (fun t => if Ab 0 t = p then Ab 1 t else 0) i → J 4 [some (vR 159), some (vI p), some (vI acc), some (vI x)] [] M := by
      refine dn ?_ ?_
      · intro x acc hx ha
        rw [ha]
        exact R_X11_own_4 R (an o159 (an (ak_of sh163 (by decide) (by decide)) (bt (show M 163 1 ≤ x by rw [m1]; omega) (R_X11_own_47 R hQ))))
      · intro i hi ih x acc hx ha
        have hxn : x.toNat = i := by omega
        obtain ⟨t0, t1, -, -⟩ := ht i hi
        have bd := wt_bd ho (c := fun t => Ab 0 t = p) (n := i + 1) (by omega)
        have b0 := wt_bd ho (c := fun t => Ab 0 t = p) (n := i) (by omega)
        have go : ∀ v : Int, v = (if Ab 0 i = p then Ab 1 i else 0) → J 39 [some (vR 159), some (vI p), some (vI acc), some (vI x)] [vI v, vI acc] M := by
          intro v hv
          refine R_X11_own_39 R (ih _ _ (wn hx (by omega)) ?_)
          rw [sumN] at bd ⊢
          rw [ha, hv]
          exact w1 (by omega) (by omega) rfl
        refine R_X11_own_4 R (an o159 (an (ak_of sh163 (by decide) (by decide)) (bf (show ¬ M 163 1 ≤ x by rw [m1]; omega) (an o159 (an (ak_of sh201 (by omega) (by omega)) ?_)))))
        rw [th_row hxn]
        refine an (ak_of (sh_th i (by omega)) (by decide) (by decide)) ?_
        rw [show M (202 + i) (Int.toNat 0) = Ab 0 i from t0]
        refine br (fun q => R_X11_own_38 R (go 0 ?_)) (fun q => an o159 (an (ak_of sh201 (by omega) (by omega)) ?_))
        · have q : ¬ Ab 0 i = p := q
          rw [if_neg q]
        · have q : Ab 0 i = p := Classical.not_not.mp q
          rw [th_row hxn]
          refine an (ak_of (sh_th i (by omega)) (by decide) (by decide)) (go _ ?_)
          rw [if_pos q]
          exact t1
    exact ⟨Nat.le_of_ble_eq_true rfl, R_X11_own_0 R (key 0 (Nat.zero_le _) _ _ rfl rfl)⟩
  · exact h.elim
theorem P_X11_all {J : JT} {Q : QT} (R : R_X11_all J Q) {as : List Vl} {M : Mem} (h : nf G_X11_all as M Q) : (enL as).length ≤ 3 ∧ J 0 (padL 3 (enL as)) [] M := by
  unfold nf G_X11_all at h
  split at h
  · rename_i k
    obtain ⟨Ab, rfl, hm, hQ⟩ := h
    obtain ⟨ho, ⟨-, m1, -⟩, -, ht, -⟩ := hm
    obtain ⟨n1, n2⟩ := nT_le ho
    have key : ∀ i, i ≤ nT Ab → ∀ x acc : Int, x = (i : Int) → acc = sumN (fun t => Ab 1 t) i → J 4 [some (vR 159), some (vI acc), some (vI x)] [] M := by
      refine dn ?_ ?_
      · intro x acc hx ha
        rw [ha]
        exact R_X11_all_4 R (an o159 (an (ak_of sh163 (by decide) (by decide)) (bt (show M 163 1 ≤ x by rw [m1]; omega) (R_X11_all_31 R hQ))))
      · intro i hi ih x acc hx ha
        have hxn : x.toNat = i := by omega
        obtain ⟨t0, t1, -, -⟩ := ht i hi
        have b0 := sum_99 (w := fun t => Ab 1 t) (n := i) (fun j hj => (ho.2.2.2.2.2.2.1 j (by omega)).2.1)
        have wi := (ho.2.2.2.2.2.2.1 i hi).2.1
        refine R_X11_all_4 R (an o159 (an (ak_of sh163 (by decide) (by decide)) (bf (show ¬ M 163 1 ≤ x by rw [m1]; omega) (an o159 (an (ak_of sh201 (by omega) (by omega)) ?_)))))
        rw [th_row hxn]
        refine an (ak_of (sh_th i (by omega)) (by decide) (by decide)) (ih _ _ (wn hx (by omega)) ?_)
        rw [show M (202 + i) (Int.toNat 1) = Ab 1 i from t1, ha, sumN]
        exact w1 (by omega) (by omega) rfl
    exact ⟨Nat.le_of_ble_eq_true rfl, R_X11_all_0 R (key 0 (Nat.zero_le _) _ _ rfl rfl)⟩

  · exact h.elim