/-- how much later a minute comes -/
def ltr (F L x : Int) : Int := if F ≤ x then x + L else x
noncomputable def rnM (M Ab : Mem) (n : Nat) : Mem := runT Ab (M 159 35) (fun i => tmF (M 159 36) (M 159 37) (i : Int)) n
def G_X11_goes : FN := fun as M Q => match as with
  | [.inr (.inl k), .inl last] => ∃ Ab, (k = 159 ∧ 0 ≤ last ∧ last ≤ 199 ∧ 0 ≤ M 159 37 ∧ M 159 37 ≤ 1000) ∧ MdP M Ab ∧ MdL M Ab ∧
      ∀ M' : Mem, (∀ u v, (u < 292 ∨ 330 < u) → M' u v = M u v) → RS M' Ab (M 159 35) (rnM M Ab (last.toNat + 1)) → (∀ p, p < nP Ab → M' 297 p = ldF Ab (rnM M Ab (last.toNat + 1)) (p : Int)) →
        (∀ k l s : Nat, k < nM Ab → l < 3 → s < 2 → ltr (M 159 36) (M 159 37) (Ab 7 k) ≤ last → M' (300 + 4 * k + l) s = cntF Ab (fun p => ldF Ab (rnM M Ab ((ltr (M 159 36) (M 159 37) (Ab 7 k)).toNat + 1)) (p : Int)) (if s = 0 then Ab 8 k else Ab 9 k) (l : Int)) → Q none M'
  | _ => False
def G_X11_goesAll : FN := fun as M Q => match as with
  | [.inr (.inl k)] => ∃ Ab, (k = 159 ∧ 0 ≤ M 159 37 ∧ M 159 37 ≤ 1000) ∧ MdP M Ab ∧ MdL M Ab ∧
      ∀ M' : Mem, (∀ u v, (u < 292 ∨ 330 < u) → ¬ (u = 159 ∧ v = 36) → M' u v = M u v) → RS M' Ab (M 159 35) (run Ab (M 159 35) 120) →
        (∀ k l s : Nat, k < nM Ab → l < 3 → s < 2 → M' (300 + 4 * k + l) s = cntF Ab (fun p => ldF Ab (run Ab (M 159 35) ((Ab 7 k).toNat + 1)) (p : Int)) (if s = 0 then Ab 8 k else Ab 9 k) (l : Int)) → Q none M'
  | _ => False
def G_X11_passesBy : FN := fun as M Q => match as with
  | [.inr (.inl k), .inl law] => ∃ Ab, (k = 159 ∧ 0 ≤ law ∧ law < 3) ∧ MdP M Ab ∧ Q (some (vI (pbN (fun i => decide (M (300 + 4 * i + law.toNat) 1 < M (300 + 4 * i + law.toNat) 0)) (nM Ab) : Nat))) M
  | _ => False
def G_X11_bad : FN := fun as M Q => match as with
  | [.inr (.inl k), .inl b, .inl w, .inl r] => (k = 159 ∧ (r = 0 ∨ r = 1) ∧ (w = 1 ∨ w = 2) ∧ M 159 0 = 0) ∧ (¬ b = 0 → Q (some (vI 1)) (up (up M 159 0 w) 161 r.toNat (f_add (M 161 r.toNat) 1))) ∧ (b = 0 → Q (some (vI 0)) M)
  | _ => False
def G_X11_isPerson : FN := fun as M Q => match as with
  | [.inr (.inl k), .inl x] => ∃ Ab, k = 159 ∧ MdP M Ab ∧ bq (0 ≤ x ∧ x < Ab 10 1) Q M
  | _ => False
def G_X11_isThing : FN := fun as M Q => match as with
  | [.inr (.inl k), .inl x] => ∃ Ab, k = 159 ∧ MdP M Ab ∧ bq (0 ≤ x ∧ x < Ab 10 2) Q M
  | _ => False
def G_X11_isMotion : FN := fun as M Q => match as with
  | [.inr (.inl k), .inl x] => ∃ Ab, k = 159 ∧ MdP M Ab ∧ bq (0 ≤ x ∧ x < Ab 10 4) Q M
  | _ => False
def G_X11_isMinute : FN := fun as M Q => match as with
  | [.inl x] => bq (0 ≤ x ∧ x < 120) Q M
  | _ => False
def G_X11_isLaw : FN := fun as M Q => match as with
  | [.inl x] => bq (0 ≤ x ∧ x < 3) Q M
  | _ => False
def b_X11_goes_0 : List AT := [tx_al 0, tx_callv 11 (nf G_X11_begins) 0, tx_ic 0, tx_is 2, tx_fall 6]
def b_X11_goes_6 : List AT := [tx_il 2, tx_il 1, tx_cmp r_gt 22, tx_al 0, tx_il 2, tx_callv 11 (nf G_X11_minuteGoes) 1, tx_inc 2 1, tx_fall 6]
def b_X11_goes_22 : List AT := [tx_rv]
def R_X11_goes (J : JT) (Q : QT) : Prop := (∀ ls st M, wpl J Q b_X11_goes_0 ls st M → J 0 ls st M) ∧ (∀ ls st M, wpl J Q b_X11_goes_6 ls st M → J 6 ls st M) ∧ (∀ ls st M, wpl J Q b_X11_goes_22 ls st M → J 22 ls st M)
theorem R_X11_goes_0 {J : JT} {Q : QT} (R : R_X11_goes J Q) {ls : Ls} {st : St} {M : Mem} (h : wpl J Q b_X11_goes_0 ls st M) : J 0 ls st M := R.1 ls st M h
theorem R_X11_goes_6 {J : JT} {Q : QT} (R : R_X11_goes J Q) {ls : Ls} {st : St} {M : Mem} (h : wpl J Q b_X11_goes_6 ls st M) : J 6 ls st M := R.2.1 ls st M h
theorem R_X11_goes_22 {J : JT} {Q : QT} (R : R_X11_goes J Q) {ls : Ls} {st : St} {M : Mem} (h : wpl J Q b_X11_goes_22 ls st M) : J 22 ls st M := R.2.2 ls st M h
def b_X11_goesAll_0 : List AT := [tx_al 0, tx_ic 1000000, tx_pi 11 36, tx_al 0, tx_ic 119, tx_callv 11 (nf G_X11_goes) 1, tx_rv]
def R_X11_goesAll (J : JT) (Q : QT) : Prop := (∀ ls st M, wpl J Q b_X11_goesAll_0 ls st M → J 0 ls st M)
theorem R_X11_goesAll_0 {J : JT} {Q : QT} (R : R_X11_goesAll J Q) {ls : Ls} {st : St} {M : Mem} (h : wpl J Q b_X11_goesAll_0 ls st M) : J 0 ls st M := R ls st M h
def b_X11_passesBy_0 : List AT := [tx_ic 0, tx_is 2, tx_ic 0, tx_is 3, tx_fall 4]
def b_X11_passesBy_4 : List AT := tx_il 3 :: tx_al 0 :: tx_gr 11 4 :: tx_ic 3 :: tx_ia :: tx_cmp r_ge 53 :: tx_il 2 :: tx_al 0 :: tx_gr 11 139 :: tx_il 3 :: tx_aa 6 :: tx_il 1 :: tx_aa 5 :: tx_ic 0 :: tx_ia :: tx_al 0 :: tx_gr 11 139 :: tx_il 3 :: tx_aa 6 :: tx_il 1 :: tx_aa 5 :: tx_ic 1 :: tx_ia :: tx_cmp r_le 44 :: tx_ic 1 :: tx_il 3 :: tx_bin shlI :: tx_fall 45 :: []
def b_X11_passesBy_44 : List AT := [tx_ic 0, tx_fall 45]
def b_X11_passesBy_45 : List AT := [tx_bin orI, tx_is 2, tx_inc 3 1, tx_fall 4]
def b_X11_passesBy_53 : List AT := [tx_il 2, tx_ri]
def R_X11_passesBy (J : JT) (Q : QT) : Prop := (∀ ls st M, wpl J Q b_X11_passesBy_0 ls st M → J 0 ls st M) ∧ (∀ ls st M, wpl J Q b_X11_passesBy_4 ls st M → J 4 ls st M) ∧ (∀ ls st M, wpl J Q b_X11_passesBy_44 ls st M → J 44 ls st M) ∧ (∀ ls st M, wpl J Q b_X11_passesBy_45 ls st M → J 45 ls st M) ∧ (∀ ls st M, wpl J Q b_X11_passesBy_53 ls st M → J 53 ls st M)
theorem R_X11_passesBy_0 {J : JT} {Q : QT} (R : R_X11_passesBy J Q) {ls : Ls} {st : St} {M : Mem} (h : wpl J Q b_X11_passesBy_0 ls st M) : J 0 ls st M := R.1 ls st M h
theorem R_X11_passesBy_4 {J : JT} {Q : QT} (R : R_X11_passesBy J Q) {ls : Ls} {st : St} {M : Mem} (h : wpl J Q b_X11_passesBy_4 ls st M) : J 4 ls st M := R.2.1 ls st M h
theorem R_X11_passesBy_44 {J : JT} {Q : QT} (R : R_X11_passesBy J Q) {ls : Ls} {st : St} {M : Mem} (h : wpl J Q b_X11_passesBy_44 ls st M) : J 44 ls st M := R.2.2.1 ls st M h
theorem R_X11_passesBy_45 {J : JT} {Q : QT} (R : R_X11_passesBy J Q) {ls : Ls} {st : St} {M : Mem} (h : wpl J Q b_X11_passesBy_45 ls st M) : J 45 ls st M := R.2.2.2.1 ls st M h
theorem R_X11_passesBy_53 {J : JT} {Q : QT} (R : R_X11_passesBy J Q) {ls : Ls} {st : St} {M : Mem} (h : wpl J Q b_X11_passesBy_53 ls st M) : J 53 ls st M := R.2.2.2.2 ls st M h
def b_X11_bad_0 : List AT := [tx_il 1, tx_ifz r_eq 26, tx_al 0, tx_gi 11 0, tx_ifz r_ne 26, tx_al 0, tx_il 2, tx_pi 11 0, tx_al 0, tx_gr 11 2, tx_il 3, tx_dup2, tx_ia, tx_ic 1, tx_bin f_add, tx_iax, tx_fall 26]
def b_X11_bad_26 : List AT := [tx_al 0, tx_gi 11 0, tx_ifz r_eq 37, tx_ic 1, tx_fall 38]
def b_X11_bad_37 : List AT := [tx_ic 0, tx_fall 38]
def b_X11_bad_38 : List AT := [tx_rz]
def R_X11_bad (J : JT) (Q : QT) : Prop := (∀ ls st M, wpl J Q b_X11_bad_0 ls st M → J 0 ls st M) ∧ (∀ ls st M, wpl J Q b_X11_bad_26 ls st M → J 26 ls st M) ∧ (∀ ls st M, wpl J Q b_X11_bad_37 ls st M → J 37 ls st M) ∧ (∀ ls st M, wpl J Q b_X11_bad_38 ls st M → J 38 ls st M)
theorem R_X11_bad_0 {J : JT} {Q : QT} (R : R_X11_bad J Q) {ls : Ls} {st : St} {M : Mem} (h : wpl J Q b_X11_bad_0 ls st M) : J 0 ls st M := R.1 ls st M h
theorem R_X11_bad_26 {J : JT} {Q : QT} (R : R_X11_bad J Q) {ls : Ls} {st : St} {M : Mem} (h : wpl J Q b_X11_bad_26 ls st M) : J 26 ls st M := R.2.1 ls st M h
theorem R_X11_bad_37 {J : JT} {Q : QT} (R : R_X11_bad J Q) {ls : Ls} {st : St} {M : Mem} (h : wpl J Q b_X11_bad_37 ls st M) : J 37 ls st M := R.2.2.1 ls st M h
theorem R_X11_bad_38 {J : JT} {Q : QT} (R : R_X11_bad J Q) {ls : Ls} {st : St} {M : Mem} (h : wpl J Q b_X11_bad_38 ls st M) : J 38 ls st M := R.2.2.2 ls st M h
def b_X11_isPerson_0 : List AT := [tx_il 1, tx_ic 0, tx_al 0, tx_gr 11 4, tx_ic 0, tx_ia, tx_ic 1, tx_bin f_sub, tx_call (nf G_X11_in) 3, tx_rz]
def R_X11_isPerson (J : JT) (Q : QT) : Prop := (∀ ls st M, wpl J Q b_X11_isPerson_0 ls st M → J 0 ls st M)
theorem R_X11_isPerson_0 {J : JT} {Q : QT} (R : R_X11_isPerson J Q) {ls : Ls} {st : St} {M : Mem} (h : wpl J Q b_X11_isPerson_0 ls st M) : J 0 ls st M := R ls st M h
def b_X11_isThing_0 : List AT := [tx_il 1, tx_ic 0, tx_al 0, tx_gr 11 4, tx_ic 1, tx_ia, tx_ic 1, tx_bin f_sub, tx_call (nf G_X11_in) 3, tx_rz]
def R_X11_isThing (J : JT) (Q : QT) : Prop := (∀ ls st M, wpl J Q b_X11_isThing_0 ls st M → J 0 ls st M)
theorem R_X11_isThing_0 {J : JT} {Q : QT} (R : R_X11_isThing J Q) {ls : Ls} {st : St} {M : Mem} (h : wpl J Q b_X11_isThing_0 ls st M) : J 0 ls st M := R ls st M h
def b_X11_isMotion_0 : List AT := [tx_il 1, tx_ic 0, tx_al 0, tx_gr 11 4, tx_ic 3, tx_ia, tx_ic 1, tx_bin f_sub, tx_call (nf G_X11_in) 3, tx_rz]
def R_X11_isMotion (J : JT) (Q : QT) : Prop := (∀ ls st M, wpl J Q b_X11_isMotion_0 ls st M → J 0 ls st M)
theorem R_X11_isMotion_0 {J : JT} {Q : QT} (R : R_X11_isMotion J Q) {ls : Ls} {st : St} {M : Mem} (h : wpl J Q b_X11_isMotion_0 ls st M) : J 0 ls st M := R ls st M h
def b_X11_isMinute_0 : List AT := [tx_il 0, tx_ic 0, tx_ic 119, tx_call (nf G_X11_in) 3, tx_rz]
def R_X11_isMinute (J : JT) (Q : QT) : Prop := (∀ ls st M, wpl J Q b_X11_isMinute_0 ls st M → J 0 ls st M)
theorem R_X11_isMinute_0 {J : JT} {Q : QT} (R : R_X11_isMinute J Q) {ls : Ls} {st : St} {M : Mem} (h : wpl J Q b_X11_isMinute_0 ls st M) : J 0 ls st M := R ls st M h
def b_X11_isLaw_0 : List AT := [tx_il 0, tx_ic 0, tx_ic 2, tx_call (nf G_X11_in) 3, tx_rz]
def R_X11_isLaw (J : JT) (Q : QT) : Prop := (∀ ls st M, wpl J Q b_X11_isLaw_0 ls st M → J 0 ls st M)
theorem R_X11_isLaw_0 {J : JT} {Q : QT} (R : R_X11_isLaw J Q) {ls : Ls} {st : St} {M : Mem} (h : wpl J Q b_X11_isLaw_0 ls st M) : J 0 ls st M := R ls st M h
theorem P_X11_isMinute {J : JT} {Q : QT} (R : R_X11_isMinute J Q) {as : List Vl} {M : Mem} (h : nf G_X11_isMinute as M Q) : (enL as).length ≤ 1 ∧ J 0 (padL 1 (enL as)) [] M := by
  unfold nf G_X11_isMinute at h
  split at h
  · rename_i x
    exact ⟨Nat.le_of_ble_eq_true rfl, R_X11_isMinute_0 R (br (fun q => an (Or.inr rfl) (h.1 (by omega))) (fun q => an (Or.inl rfl) (h.2 (by omega))))⟩
  · exact h.elim
theorem P_X11_isLaw {J : JT} {Q : QT} (R : R_X11_isLaw J Q) {as : List Vl} {M : Mem} (h : nf G_X11_isLaw as M Q) : (enL as).length ≤ 1 ∧ J 0 (padL 1 (enL as)) [] M := by
  unfold nf G_X11_isLaw at h
  split at h
  · rename_i x
    exact ⟨Nat.le_of_ble_eq_true rfl, R_X11_isLaw_0 R (br (fun q => an (Or.inr rfl) (h.1 (by omega))) (fun q => an (Or.inl rfl) (h.2 (by omega))))⟩
  · exact h.elim
theorem sb1 {x : Int} (h : 0 ≤ x) (h2 : x < 100) : f_sub x 1 = x - 1 := w1 (by omega) (by omega) rfl
theorem P_X11_isPerson {J : JT} {Q : QT} (R : R_X11_isPerson J Q) {as : List Vl} {M : Mem} (h : nf G_X11_isPerson as M Q) : (enL as).length ≤ 2 ∧ J 0 (padL 2 (enL as)) [] M := by
  unfold nf G_X11_isPerson at h
  split at h
  · rename_i k x
    obtain ⟨Ab, rfl, hm, hQ⟩ := h
    have e : M (159 + 4) (Int.toNat 0) = Ab 10 1 := hm.2.1.1
    have b := hm.1.1
    refine ⟨Nat.le_of_ble_eq_true rfl, R_X11_isPerson_0 R (an o159 (an (ak_of sh163 (by decide) (by decide)) ?_))⟩
    show ((0 ≤ x ∧ x ≤ f_sub (M (159 + 4) (Int.toNat 0)) 1) → _) ∧ (¬ (0 ≤ x ∧ x ≤ f_sub (M (159 + 4) (Int.toNat 0)) 1) → _)
    rw [e, sb1 b.1 (by omega)]
    exact br (fun q => an (Or.inr rfl) (hQ.1 (by omega))) (fun q => an (Or.inl rfl) (hQ.2 (by omega)))
  · exact h.elim
theorem P_X11_isThing {J : JT} {Q : QT} (R : R_X11_isThing J Q) {as : List Vl} {M : Mem} (h : nf G_X11_isThing as M Q) : (enL as).length ≤ 2 ∧ J 0 (padL 2 (enL as)) [] M := by
  unfold nf G_X11_isThing at h
  split at h
  · rename_i k x
    obtain ⟨Ab, rfl, hm, hQ⟩ := h
    have e : M (159 + 4) (Int.toNat 1) = Ab 10 2 := hm.2.1.2.1
    have b := hm.1.2.1
    refine ⟨Nat.le_of_ble_eq_true rfl, R_X11_isThing_0 R (an o159 (an (ak_of sh163 (by decide) (by decide)) ?_))⟩
    show ((0 ≤ x ∧ x ≤ f_sub (M (159 + 4) (Int.toNat 1)) 1) → _) ∧ (¬ (0 ≤ x ∧ x ≤ f_sub (M (159 + 4) (Int.toNat 1)) 1) → _)
    rw [e, sb1 b.1 (by omega)]
    exact br (fun q => an (Or.inr rfl) (hQ.1 (by omega))) (fun q => an (Or.inl rfl) (hQ.2 (by omega)))
  · exact h.elim
theorem P_X11_isMotion {J : JT} {Q : QT} (R : R_X11_isMotion J Q) {as : List Vl} {M : Mem} (h : nf G_X11_isMotion as M Q) : (enL as).length ≤ 2 ∧ J 0 (padL 2 (enL as)) [] M := by
  unfold nf G_X11_isMotion at h
  split at h
  · rename_i k x
    obtain ⟨Ab, rfl, hm, hQ⟩ := h
    have e : M (159 + 4) (Int.toNat 3) = Ab 10 4 := hm.2.1.2.2.2.1
    have b := hm.1.2.2.2.1
    refine ⟨Nat.le_of_ble_eq_true rfl, R_X11_isMotion_0 R (an o159 (an (ak_of sh163 (by decide) (by decide)) ?_))⟩
    show ((0 ≤ x ∧ x ≤ f_sub (M (159 + 4) (Int.toNat 3)) 1) → _) ∧ (¬ (0 ≤ x ∧ x ≤ f_sub (M (159 + 4) (Int.toNat 3)) 1) → _)
    rw [e, sb1 b.1 (by omega)]
    exact br (fun q => an (Or.inr rfl) (hQ.1 (by omega))) (fun q => an (Or.inl rfl) (hQ.2 (by omega)))
  · exact h.elim
theorem sh161 : SH 161 = (1, 2, 0, 0) := rfl
theorem P_X11_bad {J : JT} {Q : QT} (R : R_X11_bad J Q) {as : List Vl} {M : Mem} (h : nf G_X11_bad as M Q) : (enL as).length ≤ 4 ∧ J 0 (padL 4 (enL as)) [] M := by
  unfold nf G_X11_bad at h
  split at h
  · rename_i k b w r
    obtain ⟨⟨rfl, hr, hw, h0⟩, h1, h2⟩ := h
    have ar : AK 1 161 r := ak_of sh161 (by omega) (by omega)
    refine ⟨Nat.le_of_ble_eq_true rfl, R_X11_bad_0 R (br (fun q => R_X11_bad_26 R (an o159 (bt h0 (R_X11_bad_37 R (R_X11_bad_38 R (an (Or.inl rfl) (h2 q))))))) (fun q => an o159 (bf (show ¬ ¬ M 159 0 = 0 from fun z => z h0) (an o159 (an o159 (an ar (an ar ?_)))))))⟩
    show J 26 _ _ (up (up M 159 0 w) 161 r.toNat (f_add (up M 159 0 w 161 r.toNat) 1))
    rw [up_ne (by omega)]
    exact R_X11_bad_26 R (an o159 (bf (show ¬ up (up M 159 0 w) 161 r.toNat (f_add (M 161 r.toNat) 1) 159 0 = 0 by rw [up_ne (by omega), up_eq]; omega) (R_X11_bad_38 R (an (Or.inr rfl) (h1 q)))))
  · exact h.elim
theorem or_0 {a : Nat} (h : a < 2147483648) : orI (a : Int) 0 = (a : Int) := by
  have := orI_n (a := a) (b := 0) h (by decide)
  rw [Nat.or_zero] at this
  exact this
theorem P_X11_passesBy {J : JT} {Q : QT} (R : R_X11_passesBy J Q) {as : List Vl} {M : Mem} (h : nf G_X11_passesBy as M Q) : (enL as).length ≤ 4 ∧ J 0 (padL 4 (enL as)) [] M := by
  unfold nf G_X11_passesBy at h
  split at h
  · rename_i k law
    obtain ⟨Ab, ⟨rfl, w0, w2⟩, hm, hQ⟩ := h
    have ho := hm.1
    obtain ⟨q1, q2⟩ := nM_le ho
    obtain ⟨j, hj⟩ : ∃ j : Nat, law = (j : Int) := ⟨law.toNat, by omega⟩
    have hjn : law.toNat = j := by omega
    rw [hjn] at hQ
    generalize hc : (fun i => decide (M (300 + 4 * i + j) 1 < M (300 + 4 * i + j) 0)) = c at hQ
    have key : ∀ i, i ≤ nM Ab → ∀ (x acc : Int), x = (i : Int) → acc = ((pbN c i : Nat) : Int) → J 4 [some (vR 159), some (vI law), some (vI acc), some (vI x)] [] M := by
      refine dn ?_ ?_
      · intro x acc hx ha
        rw [ha]
        exact R_X11_passesBy_4 R (an o159 (an (ak_of sh163 (by decide) (by decide)) (bt (show M 163 3 ≤ x by rw [hm.2.1.2.2.2.1]; omega) (R_X11_passesBy_53 R hQ))))
      · intro i hi ih x acc hx ha
        have hxn : x.toNat = i := by omega
        have pl := pbN_lt c i
        have p8 : 2 ^ i ≤ 2 ^ 8 := Nat.pow_le_pow_right (by decide) (by omega)
        refine R_X11_passesBy_4 R (an o159 (an (ak_of sh163 (by decide) (by decide)) (bf (show ¬ M 163 3 ≤ x by rw [hm.2.1.2.2.2.1]; omega) (an o159 (an (ak_of sh298 (by omega) (by omega)) ?_)))))
        rw [ct_row hxn]
        refine an (ak_of (sh_ct i (by omega)) w0 (by omega)) ?_
        rw [cr_row (by omega) hjn]
        refine an (ak_of (sh_cr i (by omega) j (by omega)) (by decide) (by decide)) (an o159 (an (ak_of sh298 (by omega) (by omega)) ?_))
        rw [ct_row hxn]
        refine an (ak_of (sh_ct i (by omega)) w0 (by omega)) ?_
        rw [cr_row (by omega) hjn]
        refine an (ak_of (sh_cr i (by omega) j (by omega)) (by decide) (by decide)) ?_
        have ci : c i = decide (M (300 + 4 * i + j) 1 < M (300 + 4 * i + j) 0) := by rw [← hc]
        refine br (fun g => R_X11_passesBy_44 R (R_X11_passesBy_45 R (ih _ _ (wn hx (by omega)) ?_))) (fun g => R_X11_passesBy_45 R (ih _ _ (wn hx (by omega)) ?_))
        · have g : M (300 + 4 * i + j) 0 ≤ M (300 + 4 * i + j) 1 := g
          rw [ha, or_0 (by omega), pbN, if_neg (by rw [ci]; simp; omega)]
          rfl
        · have g : ¬ M (300 + 4 * i + j) 0 ≤ M (300 + 4 * i + j) 1 := g
          rw [ha, hx]
          exact or_step (by omega) (by rw [ci]; simp; omega)
    exact ⟨Nat.le_of_ble_eq_true rfl, R_X11_passesBy_0 R (key 0 (Nat.zero_le _) _ _ rfl rfl)⟩
  · exact h.elim
theorem P_X11_goes {J : JT} {Q : QT} (R : R_X11_goes J Q) {as : List Vl} {M : Mem} (h : nf G_X11_goes as M Q) : (enL as).length ≤ 3 ∧ J 0 (padL 3 (enL as)) [] M := by
  unfold nf G_X11_goes at h
  split at h
  · rename_i k last
    obtain ⟨Ab, ⟨rfl, a0, a1, l0, l1⟩, hm, hl, hQ⟩ := h
    have ho := hm.1
    have kp : ∀ M' : Mem, (∀ u v, (u < 292 ∨ 330 < u) → M' u v = M u v) → MdP M' Ab ∧ MdL M' Ab ∧ M' 159 35 = M 159 35 ∧ M' 159 36 = M 159 36 ∧ M' 159 37 = M 159 37 := fun M' hf => ⟨hm.kept (fun u v a b => hf u v (by omega)), hl.kept (hf _ _ (by omega)) (fun u v a b => hf u v (by omega)), hf _ _ (by omega), hf _ _ (by omega), hf _ _ (by omega)⟩
    have key : ∀ i, i ≤ last.toNat + 1 → ∀ (x : Int) (M' : Mem), x = (i : Int) → (∀ u v, (u < 292 ∨ 330 < u) → M' u v = M u v) → RT M' Ab (M 159 35) (nT Ab) → RS M' Ab (M 159 35) (rnM M Ab i) → (i = 0 ∨ ∀ p, p < nP Ab → M' 297 p = ldF Ab (rnM M Ab i) (p : Int)) → (∀ k l s : Nat, k < nM Ab → l < 3 → s < 2 → ltr (M 159 36) (M 159 37) (Ab 7 k) < (i : Int) → M' (300 + 4 * k + l) s = cntF Ab (fun p => ldF Ab (rnM M Ab ((ltr (M 159 36) (M 159 37) (Ab 7 k)).toNat + 1)) (p : Int)) (if s = 0 then Ab 8 k else Ab 9 k) (l : Int)) → J 6 [some (vR 159), some (vI last), some (vI x)] [] M' := by
      refine dn ?_ ?_
      · intro x M' hx hf hr h1 h2 h3
        refine R_X11_goes_6 R (bt (show last < x by omega) (R_X11_goes_22 R (hQ M' hf h1 (h2.resolve_left (by omega)) (fun k l s hk hl' hs hc => h3 k l s hk hl' hs (by omega)))))
      · intro i hi ih x M' hx hf hr h1 h2 h3
        obtain ⟨k1, k2, k3, k4, k5⟩ := kp M' hf
        have so : SigOK Ab (rnM M Ab i) := runT_ok ho hl.1 _ _ i (by omega)
        have ou : OU Ab (M 159 35) x (rnM M Ab i) := by rw [hx]; exact OU_run ho hl.1 _ _ i (by omega)
        have est : stp Ab (M 159 35) x (tmF (M 159 36) (M 159 37) x) (rnM M Ab i) = rnM M Ab (i + 1) := by rw [hx]; rfl
        refine R_X11_goes_6 R (bf (show ¬ last < x by omega) (an o159 ⟨Ab, M 159 35, rnM M Ab i, ⟨rfl, by omega, by omega, k3, by rw [k5]; exact l0, by rw [k5]; exact l1⟩, k1, k2, hr, h1, so, ou, fun M2 g1 g2 g3 g4 => ?_⟩))
        rw [k4, k5, est] at g2 g3 g4
        refine ih _ M2 (wn hx (by omega)) (fun u v hu => (g1 u v (by omega)).trans (hf u v hu)) (fun t ht hw => (g1 _ _ (by omega)).trans (hr t ht hw)) g2 (Or.inr g3) (fun k l s hk hl' hs hc => ?_)
        rw [g4 k l s hk hl' hs]
        have ob := (ho.2.2.2.2.2.2.2.2 k hk).1
        have li := later_iff (F := M 159 36) (L := M 159 37) (m := x) (x := Ab 7 k) l0 ob.1
        by_cases e : Ab 7 k = tmF (M 159 36) (M 159 37) x
        · rw [if_pos e]
          have e2 : ltr (M 159 36) (M 159 37) (Ab 7 k) = x := li.mpr e
          rw [show (ltr (M 159 36) (M 159 37) (Ab 7 k)).toNat = i by omega]
        · rw [if_neg e]
          have e2 : ¬ ltr (M 159 36) (M 159 37) (Ab 7 k) = x := fun z => e (li.mp z)
          exact h3 k l s hk hl' hs (by omega)
    refine ⟨Nat.le_of_ble_eq_true rfl, R_X11_goes_0 R (an o159 ⟨Ab, rfl, hm, fun M' h1 h2 h3 => key 0 (Nat.zero_le _) _ M' rfl (fun u v hu => h1 u v (by omega)) h2 h3 (Or.inl rfl) (fun k l s hk hl' hs hc => ?_)⟩)⟩
    exfalso
    have ob := (ho.2.2.2.2.2.2.2.2 k hk).1
    unfold ltr at hc
    split at hc <;> omega
  · exact h.elim
theorem run_far (Ab : Mem) (wo L F : Int) : ∀ n : Nat, (n : Int) ≤ F → runT Ab wo (fun i => tmF F L (i : Int)) n = run Ab wo n
  | 0, _ => by unfold run; rw [runT, runT]
  | n + 1, h => by
    have e : tmF F L (n : Int) = (n : Int) := by unfold tmF; rw [if_pos (by omega)]
    have ih := run_far Ab wo L F n (by omega)
    unfold run at ih ⊢
    rw [runT, runT, ih, e]
theorem P_X11_goesAll {J : JT} {Q : QT} (R : R_X11_goesAll J Q) {as : List Vl} {M : Mem} (h : nf G_X11_goesAll as M Q) : (enL as).length ≤ 1 ∧ J 0 (padL 1 (enL as)) [] M := by
  unfold nf G_X11_goesAll at h
  split at h
  · rename_i k
    obtain ⟨Ab, ⟨rfl, l0, l1⟩, hm, hl, hQ⟩ := h
    have ho := hm.1
    generalize hM2 : up M 159 36 1000000 = M2
    have f2 : ∀ u v, ¬ (u = 159 ∧ v = 36) → M2 u v = M u v := fun u v hu => by rw [← hM2, up_ne hu]
    have e36 : M2 159 36 = 1000000 := by rw [← hM2]; exact up_eq
    have e37 : M2 159 37 = M 159 37 := f2 _ _ (by omega)
    have e35 : M2 159 35 = M 159 35 := f2 _ _ (by omega)
    have er : ∀ n, n ≤ 1000 → rnM M2 Ab n = run Ab (M 159 35) n := by
      intro n hn
      unfold rnM
      rw [e35, e36]
      exact run_far _ _ _ _ n (by omega)
    refine ⟨Nat.le_of_ble_eq_true rfl, R_X11_goesAll_0 R (an o159 ?_)⟩
    rw [hM2]
    refine an o159 ⟨Ab, ⟨rfl, by decide, by decide, by rw [e37]; exact l0, by rw [e37]; exact l1⟩, hm.kept (fun u v a b => f2 u v (by omega)), hl.kept (f2 _ _ (by omega)) (fun u v a b => f2 u v (by omega)), fun M' h1 h2 h3 h4 => hQ M' (fun u v hu hv => (h1 u v hu).trans (f2 u v hv)) ?_ (fun k l s hk hl' hs => ?_)⟩
    · rw [e35, er _ (by decide)] at h2
      exact h2
    · have ob := (ho.2.2.2.2.2.2.2.2 k hk).1
      have el : ltr (M2 159 36) (M2 159 37) (Ab 7 k) = Ab 7 k := by rw [e36]; unfold ltr; rw [if_neg (by omega)]
      have := h4 k l s hk hl' hs
      rw [el, er _ (by omega)] at this
      exact this (by omega)

  · exact h.elim