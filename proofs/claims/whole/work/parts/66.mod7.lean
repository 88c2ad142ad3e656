/-! the reference's sitting: doors, beginning, weighing, dropping -/
theorem MdP.kept {M M' Ab : Mem} (h : MdP M Ab) (e : ∀ u v, 160 ≤ u → u < 292 → M' u v = M u v) : MdP M' Ab := by
  obtain ⟨ho, ⟨a0, a1, a2, a3, a4⟩, h1, h2, h3, h4⟩ := h
  have p1 := (nP_le ho).1
  have t1 := (nT_le ho).1
  have m1 := (nM_le ho).1
  refine ⟨ho, ⟨by rw [e _ _ (by omega) (by omega)]; exact a0, by rw [e _ _ (by omega) (by omega)]; exact a1, by rw [e _ _ (by omega) (by omega)]; exact a2, by rw [e _ _ (by omega) (by omega)]; exact a3, by rw [e _ _ (by omega) (by omega)]; exact a4⟩, fun p hp => ?_, fun p hp => ?_, fun p hp => ?_, fun p hp => ?_⟩
  · rw [e _ _ (by omega) (by omega), e _ _ (by omega) (by omega)]; exact h1 p hp
  · rw [e _ _ (by omega) (by omega), e _ _ (by omega) (by omega), e _ _ (by omega) (by omega), e _ _ (by omega) (by omega)]; exact h2 p hp
  · rw [e _ _ (by omega) (by omega)]; exact h3 p hp
  · rw [e _ _ (by omega) (by omega), e _ _ (by omega) (by omega), e _ _ (by omega) (by omega)]; exact h4 p hp
def MdL (M Ab : Mem) : Prop := LoanOK Ab 11 (Ab 10 5) ∧ M 159 22 = Ab 10 5 ∧ ∀ i, i < nL Ab → M (256 + i) 0 = Ab 11 i ∧ M (256 + i) 1 = Ab 12 i ∧ M (256 + i) 2 = Ab 13 i ∧ M (256 + i) 3 = Ab 14 i
theorem MdL.kept {M M' Ab : Mem} (h : MdL M Ab) (e0 : M' 159 22 = M 159 22) (e : ∀ u v, 256 ≤ u → u < 276 → M' u v = M u v) : MdL M' Ab := by
  obtain ⟨h1, h2, h3⟩ := h
  have l1 := (nL_le h1).1
  refine ⟨h1, by rw [e0]; exact h2, fun i hi => ?_⟩
  rw [e _ _ (by omega) (by omega), e _ _ (by omega) (by omega), e _ _ (by omega) (by omega), e _ _ (by omega) (by omega)]
  exact h3 i hi
theorem sh292 : SH 292 = (1, 14, 0, 0) := rfl
theorem sh293 : SH 293 = (1, 14, 0, 0) := rfl
theorem sh294 : SH 294 = (1, 14, 0, 0) := rfl
theorem sh295 : SH 295 = (1, 10, 0, 0) := rfl
theorem sh296 : SH 296 = (1, 10, 0, 0) := rfl
theorem sh297 : SH 297 = (1, 10, 0, 0) := rfl
theorem sh277 : SH 277 = (1, 3, 0, 0) := rfl
/-- the reference's minutes at which things are through -/
def RT (M Ab : Mem) (wo : Int) (n : Nat) : Prop := ∀ t, t < n → (t : Int) ≠ wo → M 294 t = thF Ab wo t
def G_X11_laysDoors : FN := fun as M Q => match as with
  | [.inr (.inl k)] => ∃ Ab, k = 159 ∧ MdP M Ab ∧ ∀ M' : Mem, (∀ u v, u ≠ 294 → M' u v = M u v) → RT M' Ab (M 159 35) (nT Ab) → Q none M'
  | _ => False
def b_X11_laysDoors_0 : List AT := [tx_ic 0, tx_is 1, tx_fall 2]
def b_X11_laysDoors_2 : List AT := tx_il 1 :: tx_al 0 :: tx_gr 11 4 :: tx_ic 1 :: tx_ia :: tx_cmp r_ge 152 :: tx_ic 0 :: tx_is 2 :: tx_al 0 :: tx_gr 11 135 :: tx_il 1 :: tx_ic 0 :: tx_iax :: tx_al 0 :: tx_gr 11 42 :: tx_il 1 :: tx_aa 5 :: tx_ic 2 :: tx_ia :: tx_ic (-1) :: tx_cmp r_eq 146 :: tx_il 1 :: tx_al 0 :: tx_gi 11 35 :: tx_cmp r_ne 44 :: tx_fall 146 :: []
def b_X11_laysDoors_44 : List AT := [tx_ic 0, tx_is 3, tx_fall 46]
def b_X11_laysDoors_46 : List AT := tx_il 3 :: tx_il 1 :: tx_cmp r_ge 91 :: tx_al 0 :: tx_gr 11 42 :: tx_il 3 :: tx_aa 5 :: tx_ic 2 :: tx_ia :: tx_al 0 :: tx_gr 11 42 :: tx_il 1 :: tx_aa 5 :: tx_ic 2 :: tx_ia :: tx_cmp r_ne 85 :: tx_il 3 :: tx_al 0 :: tx_gi 11 35 :: tx_cmp r_eq 85 :: tx_al 0 :: tx_gr 11 135 :: tx_il 3 :: tx_ia :: tx_is 2 :: tx_fall 85 :: []
def b_X11_laysDoors_85 : List AT := [tx_inc 3 1, tx_fall 46]
def b_X11_laysDoors_91 : List AT := [tx_al 0, tx_gr 11 135, tx_il 1, tx_il 2, tx_al 0, tx_gr 11 42, tx_il 1, tx_aa 5, tx_ic 3, tx_ia, tx_cmp r_le 112, tx_il 2, tx_fall 120]
def b_X11_laysDoors_112 : List AT := [tx_al 0, tx_gr 11 42, tx_il 1, tx_aa 5, tx_ic 3, tx_ia, tx_fall 120]
def b_X11_laysDoors_120 : List AT := [tx_al 0, tx_gr 11 42, tx_il 1, tx_aa 5, tx_ic 1, tx_ia, tx_al 0, tx_gr 11 118, tx_al 0, tx_gr 11 42, tx_il 1, tx_aa 5, tx_ic 2, tx_ia, tx_ia, tx_call (nf G_X11_rounded) 2, tx_bin f_add, tx_iax, tx_fall 146]
def b_X11_laysDoors_146 : List AT := [tx_inc 1 1, tx_fall 2]
def b_X11_laysDoors_152 : List AT := [tx_rv]
def R_X11_laysDoors (J : JT) (Q : QT) : Prop := (∀ ls st M, wpl J Q b_X11_laysDoors_0 ls st M → J 0 ls st M) ∧ (∀ ls st M, wpl J Q b_X11_laysDoors_2 ls st M → J 2 ls st M) ∧ (∀ ls st M, wpl J Q b_X11_laysDoors_44 ls st M → J 44 ls st M) ∧ (∀ ls st M, wpl J Q b_X11_laysDoors_46 ls st M → J 46 ls st M) ∧ (∀ ls st M, wpl J Q b_X11_laysDoors_85 ls st M → J 85 ls st M) ∧ (∀ ls st M, wpl J Q b_X11_laysDoors_91 ls st M → J 91 ls st M) ∧ (∀ ls st M, wpl J Q b_X11_laysDoors_112 ls st M → J 112 ls st M) ∧ (∀ ls st M, wpl J Q b_X11_laysDoors_120 ls st M → J 120 ls st M) ∧ (∀ ls st M, wpl J Q b_X11_laysDoors_146 ls st M → J 146 ls st M) ∧ (∀ ls st M, wpl J Q b_X11_laysDoors_152 ls st M → J 152 ls st M)
theorem R_X11_laysDoors_0 {J : JT} {Q : QT} (R : R_X11_laysDoors J Q) {ls : Ls} {st : St} {M : Mem} (h : wpl J Q b_X11_laysDoors_0 ls st M) : J 0 ls st M := R.1 ls st M h
theorem R_X11_laysDoors_2 {J : JT} {Q : QT} (R : R_X11_laysDoors J Q) {ls : Ls} {st : St} {M : Mem} (h : wpl J Q b_X11_laysDoors_2 ls st M) : J 2 ls st M := R.2.1 ls st M h
theorem R_X11_laysDoors_44 {J : JT} {Q : QT} (R : R_X11_laysDoors J Q) {ls : Ls} {st : St} {M : Mem} (h : wpl J Q b_X11_laysDoors_44 ls st M) : J 44 ls st M := R.2.2.1 ls st M h
theorem R_X11_laysDoors_46 {J : JT} {Q : QT} (R : R_X11_laysDoors J Q) {ls : Ls} {st : St} {M : Mem} (h : wpl J Q b_X11_laysDoors_46 ls st M) : J 46 ls st M := R.2.2.2.1 ls st M h
theorem R_X11_laysDoors_85 {J : JT} {Q : QT} (R : R_X11_laysDoors J Q) {ls : Ls} {st : St} {M : Mem} (h : wpl J Q b_X11_laysDoors_85 ls st M) : J 85 ls st M := R.2.2.2.2.1 ls st M h
theorem R_X11_laysDoors_91 {J : JT} {Q : QT} (R : R_X11_laysDoors J Q) {ls : Ls} {st : St} {M : Mem} (h : wpl J Q b_X11_laysDoors_91 ls st M) : J 91 ls st M := R.2.2.2.2.2.1 ls st M h
theorem R_X11_laysDoors_112 {J : JT} {Q : QT} (R : R_X11_laysDoors J Q) {ls : Ls} {st : St} {M : Mem} (h : wpl J Q b_X11_laysDoors_112 ls st M) : J 112 ls st M := R.2.2.2.2.2.2.1 ls st M h
theorem R_X11_laysDoors_120 {J : JT} {Q : QT} (R : R_X11_laysDoors J Q) {ls : Ls} {st : St} {M : Mem} (h : wpl J Q b_X11_laysDoors_120 ls st M) : J 120 ls st M := R.2.2.2.2.2.2.2.1 ls st M h
theorem R_X11_laysDoors_146 {J : JT} {Q : QT} (R : R_X11_laysDoors J Q) {ls : Ls} {st : St} {M : Mem} (h : wpl J Q b_X11_laysDoors_146 ls st M) : J 146 ls st M := R.2.2.2.2.2.2.2.2.1 ls st M h
theorem R_X11_laysDoors_152 {J : JT} {Q : QT} (R : R_X11_laysDoors J Q) {ls : Ls} {st : St} {M : Mem} (h : wpl J Q b_X11_laysDoors_152 ls st M) : J 152 ls st M := R.2.2.2.2.2.2.2.2.2 ls st M h
theorem P_X11_laysDoors {J : JT} {Q : QT} (R : R_X11_laysDoors J Q) {as : List Vl} {M : Mem} (h : nf G_X11_laysDoors as M Q) : (enL as).length ≤ 4 ∧ J 0 (padL 4 (enL as)) [] M := by
  unfold nf G_X11_laysDoors at h
  split at h
  · rename_i k
    obtain ⟨Ab, rfl, hm, hQ⟩ := h
    have ho := hm.1
    obtain ⟨n1, n2⟩ := nT_le ho
    obtain ⟨d1, d2⟩ := nD_le ho
    generalize hwo : M 159 35 = wo at hQ
    have key : ∀ i, i ≤ nT Ab → ∀ (x : Int) (M' : Mem) (z2 z3 : Option Vl), x = (i : Int) → (∀ u v, u ≠ 294 → M' u v = M u v) → RT M' Ab wo i → J 2 [some (vR 159), some (vI x), z2, z3] [] M' := by
      refine dn ?_ ?_
      · intro x M' z2 z3 hx hf hr
        have hm' : MdP M' Ab := hm.kept (fun u v q1 q2 => hf u v (by omega))
        exact R_X11_laysDoors_2 R (an o159 (an (ak_of sh163 (by decide) (by decide)) (bt (show M' 163 1 ≤ x by rw [hm'.2.1.2.1]; omega) (R_X11_laysDoors_152 R (hQ M' hf hr)))))
      · intro i hi ih x M' z2 z3 hx hf hr
        have hxn : x.toNat = i := by omega
        have hm' : MdP M' Ab := hm.kept (fun u v q1 q2 => hf u v (by omega))
        generalize hM2 : up M' 294 x.toNat 0 = M2
        have f2 : ∀ u v, u ≠ 294 → M2 u v = M u v := fun u v hu => by rw [← hM2, up_ne (by omega)]; exact hf u v hu
        have r2 : RT M2 Ab wo i := fun t ht hw => by rw [← hM2, up_ne (by omega)]; exact hr t ht hw
        have m2 : MdP M2 Ab := hm.kept (fun u v q1 q2 => f2 u v (by omega))
        have ht := m2.2.2.2.1
        obtain ⟨t0, t1, tt2, t3⟩ := ht i hi
        have oi := ho.2.2.2.2.2.2.1 i hi
        have ew : M2 159 35 = wo := by rw [f2 _ _ (by omega)]; exact hwo
        have skip : ∀ z3 : Option Vl, (Ab 2 i = -1 ∨ (i : Int) = wo) → J 146 [some (vR 159), some (vI x), some (vI 0), z3] [] M2 := by
          intro z3 hc
          refine R_X11_laysDoors_146 R (ih _ _ _ _ (wn hx (by omega)) f2 (fun t htt hw => ?_))
          by_cases e : t = i
          · subst e
            rw [← hM2, hxn, up_eq]
            unfold thF
            rw [if_pos (by omega)]
          · exact r2 t (by omega) hw
        have inner : Ab 2 i ≠ -1 → (i : Int) ≠ wo → ∀ j, j ≤ i → ∀ (y ah : Int), y = (j : Int) → ah = dfr Ab wo j (Ab 2 i) → J 46 [some (vR 159), some (vI x), some (vI ah), some (vI y)] [] M2 := by
          intro c1 c2
          have pb := pass_bd ho hi
          refine dn ?_ ?_
          · intro y ah hy ha
            have db := dfr_bd ho wo i (Ab 2 i) (by omega)
            have hd3 := m2.2.2.2.2.1 (Ab 2 i).toNat (by omega)
            have ob := ho.2.2.2.2.2.2.2.1 (Ab 2 i).toNat (by omega)
            have fin : ∀ v : Int, v = max (Ab 3 i) ah → J 120 [some (vR 159), some (vI x), some (vI ah), some (vI y)] [vI v, vI x, vR 294] M2 := by
              intro v hv
              refine R_X11_laysDoors_120 R (an o159 (an (ak_of sh201 (by omega) (by omega)) ?_))
              rw [th_row hxn]
              refine an (ak_of (sh_th i (by omega)) (by decide) (by decide)) (an o159 (an o159 (an (ak_of sh201 (by omega) (by omega)) ?_)))
              rw [th_row hxn, show M2 (202 + i) (Int.toNat 1) = Ab 1 i from t1]
              refine an (ak_of (sh_th i (by omega)) (by decide) (by decide)) ?_
              rw [show M2 (202 + i) (Int.toNat 2) = Ab 2 i from tt2]
              refine an (ak_of sh277 (by omega) (by omega)) ?_
              show (1 ≤ Ab 1 i ∧ Ab 1 i ≤ 99 ∧ 1 ≤ M2 277 (Ab 2 i).toNat ∧ M2 277 (Ab 2 i).toNat ≤ 99) ∧ _
              rw [hd3]
              refine ⟨⟨by omega, by omega, by omega, by omega⟩, an (ak_of sh294 (by omega) (by omega)) (R_X11_laysDoors_146 R (ih _ _ _ _ (wn hx (by omega)) (fun u v hu => ?_) (fun t htt hw => ?_)))⟩
              · rw [up_ne (by omega)]; exact f2 u v hu
              · by_cases e : t = i
                · subst e
                  rw [hxn, up_eq]
                  have ep : passF Ab t = (Ab 1 t + Ab 6 (Ab 2 t).toNat - 1) / Ab 6 (Ab 2 t).toNat := by unfold passF; rw [if_neg (by omega)]
                  rw [← ep]
                  unfold thF
                  rw [if_neg (by omega), hv, ha]
                  exact w1 (by omega) (by omega) rfl
                · rw [up_ne (by omega)]; exact r2 t (by omega) hw
            refine R_X11_laysDoors_46 R (bt (show x ≤ y by omega) (R_X11_laysDoors_91 R (an o159 (an o159 (an (ak_of sh201 (by omega) (by omega)) ?_)))))
            rw [th_row hxn]
            refine an (ak_of (sh_th i (by omega)) (by decide) (by decide)) ?_
            rw [show M2 (202 + i) (Int.toNat 3) = Ab 3 i from t3]
            refine br (fun g => R_X11_laysDoors_112 R (an o159 (an (ak_of sh201 (by omega) (by omega)) ?_))) (fun g => fin _ ?_)
            · have g : ah ≤ Ab 3 i := g
              rw [th_row hxn]
              refine an (ak_of (sh_th i (by omega)) (by decide) (by decide)) (fin _ ?_)
              rw [show M2 (202 + i) (Int.toNat 3) = Ab 3 i from t3]
              omega
            · have g : ¬ ah ≤ Ab 3 i := g
              omega
          · intro j hj ihj y ah hy ha
            have hyn : y.toNat = j := by omega
            obtain ⟨u0, u1, u2, u3⟩ := ht j (by omega)
            refine R_X11_laysDoors_46 R (bf (show ¬ x ≤ y by omega) (an o159 (an (ak_of sh201 (by omega) (by omega)) ?_)))
            rw [th_row hyn]
            refine an (ak_of (sh_th j (by omega)) (by decide) (by decide)) (an o159 (an (ak_of sh201 (by omega) (by omega)) ?_))
            rw [th_row hxn, show M2 (202 + j) (Int.toNat 2) = Ab 2 j from u2]
            refine an (ak_of (sh_th i (by omega)) (by decide) (by decide)) ?_
            rw [show M2 (202 + i) (Int.toNat 2) = Ab 2 i from tt2]
            have no : ¬ ((j : Int) ≠ wo ∧ Ab 2 j = Ab 2 i) → J 85 [some (vR 159), some (vI x), some (vI ah), some (vI y)] [] M2 := by
              intro hc
              refine R_X11_laysDoors_85 R (ihj _ _ (wn hy (by omega)) ?_)
              rw [dfr, if_neg hc]
              exact ha
            refine br (fun g => no (fun z => g z.2)) (fun g => an o159 (br (fun g2 => no (fun z => z.1 ?_)) (fun g2 => an o159 (an (ak_of sh294 (by omega) (by omega)) (R_X11_laysDoors_85 R (ihj _ _ (wn hy (by omega)) ?_))))))
            · have g2 : y = M2 159 35 := g2
              rw [ew] at g2
              omega
            · have g : Ab 2 j = Ab 2 i := Classical.not_not.mp g
              have g2 : ¬ y = M2 159 35 := g2
              rw [ew] at g2
              have hj2 : (j : Int) ≠ wo := by omega
              rw [dfr, if_pos ⟨hj2, g⟩, hyn, show M2 (159 + 135) j = thF Ab wo j from r2 j (by omega) hj2]
              unfold thF
              rw [if_neg (by omega), g]
        refine R_X11_laysDoors_2 R (an o159 (an (ak_of sh163 (by decide) (by decide)) (bf (show ¬ M' 163 1 ≤ x by rw [hm'.2.1.2.1]; omega) (an o159 (an (ak_of sh294 (by omega) (by omega)) (an o159 (an (ak_of sh201 (by omega) (by omega)) ?_)))))))
        rw [th_row hxn]
        refine an (ak_of (sh_th i (by omega)) (by decide) (by decide)) ?_
        rw [show up M' (159 + 135) x.toNat 0 = M2 from hM2, show M2 (202 + i) (Int.toNat 2) = Ab 2 i from tt2]
        refine br (fun g => skip _ (Or.inl g)) (fun g => an o159 (br (fun g2 => R_X11_laysDoors_44 R (inner g ?_ 0 (Nat.zero_le _) _ _ rfl rfl)) (fun g2 => skip _ (Or.inr ?_))))
        · have g2 : ¬ x = M2 159 35 := g2
          rw [ew] at g2
          omega
        · have g2 : x = M2 159 35 := Classical.not_not.mp g2
          rw [ew] at g2
          omega
    exact ⟨Nat.le_of_ble_eq_true rfl, R_X11_laysDoors_0 R (key 0 (Nat.zero_le _) _ _ _ _ rfl (fun _ _ _ => rfl) (fun t ht => absurd ht (Nat.not_lt_zero t)))⟩

  · exact h.elim