def G_X11_winsBy : FN := fun as M Q => match as with
  | [.inr (.inl k), .inl x] => ∃ Ab, (k = 159 ∧ 0 ≤ x ∧ x < 16) ∧ MdP M Ab ∧ bq (winB Ab x.toNat = true) Q M
  | _ => False
def b_X11_winsBy_0 : List AT := [tx_ic 0, tx_is 2, tx_ic 0, tx_is 3, tx_fall 4]
def b_X11_winsBy_4 : List AT := tx_il 3 :: tx_al 0 :: tx_gr 11 4 :: tx_ic 1 :: tx_ia :: tx_cmp r_ge 58 :: tx_il 2 :: tx_il 1 :: tx_al 0 :: tx_gr 11 16 :: tx_al 0 :: tx_gr 11 42 :: tx_il 3 :: tx_aa 5 :: tx_ic 0 :: tx_ia :: tx_aa 5 :: tx_ic 0 :: tx_ia :: tx_bin shrI :: tx_ic 1 :: tx_bin andI :: tx_ic 1 :: tx_cmp r_ne 49 :: tx_al 0 :: tx_gr 11 42 :: tx_il 3 :: tx_aa 5 :: tx_ic 1 :: tx_ia :: tx_fall 50 :: []
def b_X11_winsBy_49 : List AT := [tx_ic 0, tx_fall 50]
def b_X11_winsBy_50 : List AT := [tx_bin f_add, tx_is 2, tx_inc 3 1, tx_fall 4]
def b_X11_winsBy_58 : List AT := [tx_ic 2, tx_il 2, tx_bin f_mul, tx_al 0, tx_callv 11 (nf G_X11_all) 0, tx_cmp r_le 72, tx_ic 1, tx_fall 73]
def b_X11_winsBy_72 : List AT := [tx_ic 0, tx_fall 73]
def b_X11_winsBy_73 : List AT := [tx_rz]
def R_X11_winsBy (J : JT) (Q : QT) : Prop := (∀ ls st M, wpl J Q b_X11_winsBy_0 ls st M → J 0 ls st M) ∧ (∀ ls st M, wpl J Q b_X11_winsBy_4 ls st M → J 4 ls st M) ∧ (∀ ls st M, wpl J Q b_X11_winsBy_49 ls st M → J 49 ls st M) ∧ (∀ ls st M, wpl J Q b_X11_winsBy_50 ls st M → J 50 ls st M) ∧ (∀ ls st M, wpl J Q b_X11_winsBy_58 ls st M → J 58 ls st M) ∧ (∀ ls st M, wpl J Q b_X11_winsBy_72 ls st M → J 72 ls st M) ∧ (∀ ls st M, wpl J Q b_X11_winsBy_73 ls st M → J 73 ls st M)
theorem R_X11_winsBy_0 {J : JT} {Q : QT} (R : R_X11_winsBy J Q) {ls : Ls} {st : St} {M : Mem} (h : wpl J Q b_X11_winsBy_0 ls st M) : J 0 ls st M := R.1 ls st M h
theorem R_X11_winsBy_4 {J : JT} {Q : QT} (R : R_X11_winsBy J Q) {ls : Ls} {st : St} {M : Mem} (h : wpl J Q b_X11_winsBy_4 ls st M) : J 4 ls st M := R.2.1 ls st M h
theorem R_X11_winsBy_49 {J : JT} {Q : QT} (R : R_X11_winsBy J Q) {ls : Ls} {st : St} {M : Mem} (h : wpl J Q b_X11_winsBy_49 ls st M) : J 49 ls st M := R.2.2.1 ls st M h
theorem R_X11_winsBy_50 {J : JT} {Q : QT} (R : R_X11_winsBy J Q) {ls : Ls} {st : St} {M : Mem} (h : wpl J Q b_X11_winsBy_50 ls st M) : J 50 ls st M := R.2.2.2.1 ls st M h
theorem R_X11_winsBy_58 {J : JT} {Q : QT} (R : R_X11_winsBy J Q) {ls : Ls} {st : St} {M : Mem} (h : wpl J Q b_X11_winsBy_58 ls st M) : J 58 ls st M := R.2.2.2.2.1 ls st M h
theorem R_X11_winsBy_72 {J : JT} {Q : QT} (R : R_X11_winsBy J Q) {ls : Ls} {st : St} {M : Mem} (h : wpl J Q b_X11_winsBy_72 ls st M) : J 72 ls st M := R.2.2.2.2.2.1 ls st M h
theorem R_X11_winsBy_73 {J : JT} {Q : QT} (R : R_X11_winsBy J Q) {ls : Ls} {st : St} {M : Mem} (h : wpl J Q b_X11_winsBy_73 ls st M) : J 73 ls st M := R.2.2.2.2.2.2 ls st M h
theorem sh175 : SH 175 = (5, 10, 176, 1) := rfl
theorem pe_row {x : Int} {i : Nat} (h : x.toNat = i) : (SH (159 + 16)).2.2.1 + (SH (159 + 16)).2.2.2 * x.toNat = 176 + i := by
  rw [h]
  show 176 + 1 * i = 176 + i
  omega
theorem sh_pe : ∀ i, i < 10 → SH (176 + i) = (1, 2, 0, 0) := by decide
theorem win_sum {Ab : Mem} (ho : HallOK Ab) (x : Nat) : wS (ptO Ab) x 4 = sumN (fun t => if x.testBit (Ab 4 (Ab 0 t).toNat).toNat = true then Ab 1 t else 0) (nT Ab) := by
  have p2 := (nP_le ho).2
  have e1 := own_swap (ow := fun p => Ab 4 p) (w := ownN Ab) (c := fun q => x.testBit q) (np := 4) (nt := nP Ab) (fun p hp => by have := (ho.2.2.2.2.2.1 p hp).1; omega)
  have e2 := own_swap (ow := fun t => Ab 0 t) (w := fun t => Ab 1 t) (c := fun p => x.testBit (Ab 4 p).toNat) (np := nP Ab) (nt := nT Ab) (fun t ht => by have := (ho.2.2.2.2.2.2.1 t ht).1; omega)
  exact e1.trans e2
theorem P_X11_winsBy {J : JT} {Q : QT} (R : R_X11_winsBy J Q) {as : List Vl} {M : Mem} (h : nf G_X11_winsBy as M Q) : (enL as).length ≤ 4 ∧ J 0 (padL 4 (enL as)) [] M := by
  unfold nf G_X11_winsBy at h
  split at h
  · rename_i k y
    obtain ⟨Ab, ⟨rfl, y0, y1⟩, hm, hQ⟩ := h
    have hm' := hm
    obtain ⟨ho, ⟨-, m1, -⟩, hpe, ht, -⟩ := hm
    obtain ⟨n1, n2⟩ := nT_le ho
    obtain ⟨q1, q2⟩ := nP_le ho
    have key : ∀ i, i ≤ nT Ab → ∀ x acc : Int, x = (i : Int) → acc = sumN (fun t => if y.toNat.testBit (Ab 4 (Ab 0 t).toNat).toNat = true then Ab 1 t else 0) i → J 4 [some (vR 159), some (vI y), some (vI acc), some (vI x)] [] M := by
      refine dn ?_ ?_
      · intro x acc hx ha
        have bd := wt_bd ho (c := fun t => y.toNat.testBit (Ab 4 (Ab 0 t).toNat).toNat = true) (n := nT Ab) (Nat.le_refl _)
        rw [← ha] at bd
        have em : f_mul 2 acc = 2 * acc := w1 (by omega) (by omega) rfl
        have es : acc = wS (ptO Ab) y.toNat 4 := ha.trans (win_sum ho y.toNat).symm
        refine R_X11_winsBy_4 R (an o159 (an (ak_of sh163 (by decide) (by decide)) (bt (show M 163 1 ≤ x by rw [m1]; omega) (R_X11_winsBy_58 R (an o159 ⟨Ab, rfl, hm', br (fun g => R_X11_winsBy_72 R (R_X11_winsBy_73 R (an (Or.inl rfl) (hQ.2 (fun z => ?_))))) (fun g => R_X11_winsBy_73 R (an (Or.inr rfl) (hQ.1 ?_)))⟩)))))
        · have g : f_mul 2 acc ≤ allP Ab := g
          rw [em, es] at g
          unfold winB at z
          have z := of_decide_eq_true z
          omega
        · have g : ¬ f_mul 2 acc ≤ allP Ab := g
          rw [em, es] at g
          unfold winB
          exact decide_eq_true (by omega)
      · intro i hi ih x acc hx ha
        have hxn : x.toNat = i := by omega
        obtain ⟨t0, t1, -, -⟩ := ht i hi
        have oi := (ho.2.2.2.2.2.2.1 i hi).1
        have op : (Ab 0 i).toNat < nP Ab := by omega
        have pp := (hpe _ op).1
        have pb := (ho.2.2.2.2.2.1 _ op).1
        have bd := wt_bd ho (c := fun t => y.toNat.testBit (Ab 4 (Ab 0 t).toNat).toNat = true) (n := i + 1) (by omega)
        have b0 := wt_bd ho (c := fun t => y.toNat.testBit (Ab 4 (Ab 0 t).toNat).toNat = true) (n := i) (by omega)
        have go : ∀ v : Int, v = (if y.toNat.testBit (Ab 4 (Ab 0 i).toNat).toNat = true then Ab 1 i else 0) → J 50 [some (vR 159), some (vI y), some (vI acc), some (vI x)] [vI v, vI acc] M := by
          intro v hv
          refine R_X11_winsBy_50 R (ih _ _ (wn hx (by omega)) ?_)
          rw [sumN] at bd ⊢
          rw [ha, hv]
          exact w1 (by omega) (by omega) rfl
        refine R_X11_winsBy_4 R (an o159 (an (ak_of sh163 (by decide) (by decide)) (bf (show ¬ M 163 1 ≤ x by rw [m1]; omega) (an o159 (an o159 (an (ak_of sh201 (by omega) (by omega)) ?_))))))
        rw [th_row hxn]
        refine an (ak_of (sh_th i (by omega)) (by decide) (by decide)) ?_
        rw [show M (202 + i) (Int.toNat 0) = Ab 0 i from t0]
        refine an (ak_of sh175 (by omega) (by omega)) ?_
        rw [pe_row rfl]
        refine an (ak_of (sh_pe _ (by omega)) (by decide) (by decide)) ?_
        rw [show M (176 + (Ab 0 i).toNat) (Int.toNat 0) = Ab 4 (Ab 0 i).toNat from pp]
        have eb := bit_and (x := y) (i := Ab 4 (Ab 0 i).toNat) y0 (by omega) pb.1 (by omega)
        refine br (fun q => R_X11_winsBy_49 R (go 0 ?_)) (fun q => an o159 (an (ak_of sh201 (by omega) (by omega)) ?_))
        · have q : ¬ andI (shrI y (Ab 4 (Ab 0 i).toNat)) 1 = 1 := q
          rw [eb] at q
          rw [if_neg (fun z => q (by rw [show bitB y (Ab 4 (Ab 0 i).toNat) = true from z]; rfl))]
        · have q : andI (shrI y (Ab 4 (Ab 0 i).toNat)) 1 = 1 := Classical.not_not.mp q
          rw [eb] at q
          rw [th_row hxn]
          refine an (ak_of (sh_th i (by omega)) (by decide) (by decide)) (go _ ?_)
          rw [if_pos]
          · exact t1
          · cases hb : bitB y (Ab 4 (Ab 0 i).toNat) with
            | true => exact hb
            | false => rw [hb] at q; exact absurd q (by decide)
    exact ⟨Nat.le_of_ble_eq_true rfl, R_X11_winsBy_0 R (key 0 (Nat.zero_le _) _ _ rfl rfl)⟩

  · exact h.elim