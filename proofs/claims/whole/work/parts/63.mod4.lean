def G_X11_powerOf : FN := fun as M Q => match as with
  | [.inr (.inl k), .inl p] => ∃ Ab, (k = 159 ∧ 0 ≤ p ∧ p < Ab 10 1) ∧ MdP M Ab ∧ Q (some (vI (swF Ab p.toNat))) M
  | _ => False
def b_X11_powerOf_0 : List AT := [tx_ic 0, tx_is 2, tx_al 0, tx_callv 11 (nf G_X11_all) 0, tx_is 3, tx_al 0, tx_il 1, tx_callv 11 (nf G_X11_own) 1, tx_is 4, tx_ic 0, tx_is 5, tx_fall 17]
def b_X11_powerOf_17 : List AT := [tx_il 5, tx_ic 1, tx_al 0, tx_gr 11 4, tx_ic 0, tx_ia, tx_bin shlI, tx_cmp r_ge 135, tx_il 5, tx_il 1, tx_bin shrI, tx_ic 1, tx_bin andI, tx_ic 1, tx_cmp r_ne 43, tx_fall 129]
def b_X11_powerOf_43 : List AT := [tx_ic 0, tx_is 6, tx_ic 0, tx_is 7, tx_fall 49]
def b_X11_powerOf_49 : List AT := tx_il 7 :: tx_al 0 :: tx_gr 11 4 :: tx_ic 1 :: tx_ia :: tx_cmp r_ge 102 :: tx_il 6 :: tx_il 5 :: tx_al 0 :: tx_gr 11 42 :: tx_il 7 :: tx_aa 5 :: tx_ic 0 :: tx_ia :: tx_bin shrI :: tx_ic 1 :: tx_bin andI :: tx_ic 1 :: tx_cmp r_ne 92 :: tx_al 0 :: tx_gr 11 42 :: tx_il 7 :: tx_aa 5 :: tx_ic 1 :: tx_ia :: tx_fall 93 :: []
def b_X11_powerOf_92 : List AT := [tx_ic 0, tx_fall 93]
def b_X11_powerOf_93 : List AT := [tx_bin f_add, tx_is 6, tx_inc 7 1, tx_fall 49]
def b_X11_powerOf_102 : List AT := [tx_il 2, tx_ic 2, tx_il 6, tx_bin f_mul, tx_il 3, tx_cmp r_gt 126, tx_ic 2, tx_il 6, tx_il 4, tx_bin f_add, tx_bin f_mul, tx_il 3, tx_cmp r_le 126, tx_ic 1, tx_fall 127]
def b_X11_powerOf_126 : List AT := [tx_ic 0, tx_fall 127]
def b_X11_powerOf_127 : List AT := [tx_bin f_add, tx_is 2, tx_fall 129]
def b_X11_powerOf_129 : List AT := [tx_inc 5 1, tx_fall 17]
def b_X11_powerOf_135 : List AT := [tx_il 2, tx_ri]
def R_X11_powerOf (J : JT) (Q : QT) : Prop := (∀ ls st M, wpl J Q b_X11_powerOf_0 ls st M → J 0 ls st M) ∧ (∀ ls st M, wpl J Q b_X11_powerOf_17 ls st M → J 17 ls st M) ∧ (∀ ls st M, wpl J Q b_X11_powerOf_43 ls st M → J 43 ls st M) ∧ (∀ ls st M, wpl J Q b_X11_powerOf_49 ls st M → J 49 ls st M) ∧ (∀ ls st M, wpl J Q b_X11_powerOf_92 ls st M → J 92 ls st M) ∧ (∀ ls st M, wpl J Q b_X11_powerOf_93 ls st M → J 93 ls st M) ∧ (∀ ls st M, wpl J Q b_X11_powerOf_102 ls st M → J 102 ls st M) ∧ (∀ ls st M, wpl J Q b_X11_powerOf_126 ls st M → J 126 ls st M) ∧ (∀ ls st M, wpl J Q b_X11_powerOf_127 ls st M → J 127 ls st M) ∧ (∀ ls st M, wpl J Q b_X11_powerOf_129 ls st M → J 129 ls st M) ∧ (∀ ls st M, wpl J Q b_X11_powerOf_135 ls st M → J 135 ls st M)
theorem R_X11_powerOf_0 {J : JT} {Q : QT} (R : R_X11_powerOf J Q) {ls : Ls} {st : St} {M : Mem} (h : wpl J Q b_X11_powerOf_0 ls st M) : J 0 ls st M := R.1 ls st M h
theorem R_X11_powerOf_17 {J : JT} {Q : QT} (R : R_X11_powerOf J Q) {ls : Ls} {st : St} {M : Mem} (h : wpl J Q b_X11_powerOf_17 ls st M) : J 17 ls st M := R.2.1 ls st M h
theorem R_X11_powerOf_43 {J : JT} {Q : QT} (R : R_X11_powerOf J Q) {ls : Ls} {st : St} {M : Mem} (h : wpl J Q b_X11_powerOf_43 ls st M) : J 43 ls st M := R.2.2.1 ls st M h
theorem R_X11_powerOf_49 {J : JT} {Q : QT} (R : R_X11_powerOf J Q) {ls : Ls} {st : St} {M : Mem} (h : wpl J Q b_X11_powerOf_49 ls st M) : J 49 ls st M := R.2.2.2.1 ls st M h
theorem R_X11_powerOf_92 {J : JT} {Q : QT} (R : R_X11_powerOf J Q) {ls : Ls} {st : St} {M : Mem} (h : wpl J Q b_X11_powerOf_92 ls st M) : J 92 ls st M := R.2.2.2.2.1 ls st M h
theorem R_X11_powerOf_93 {J : JT} {Q : QT} (R : R_X11_powerOf J Q) {ls : Ls} {st : St} {M : Mem} (h : wpl J Q b_X11_powerOf_93 ls st M) : J 93 ls st M := R.2.2.2.2.2.1 ls st M h
theorem R_X11_powerOf_102 {J : JT} {Q : QT} (R : R_X11_powerOf J Q) {ls : Ls} {st : St} {M : Mem} (h : wpl J Q b_X11_powerOf_102 ls st M) : J 102 ls st M := R.2.2.2.2.2.2.1 ls st M h
theorem R_X11_powerOf_126 {J : JT} {Q : QT} (R : R_X11_powerOf J Q) {ls : Ls} {st : St} {M : Mem} (h : wpl J Q b_X11_powerOf_126 ls st M) : J 126 ls st M := R.2.2.2.2.2.2.2.1 ls st M h
theorem R_X11_powerOf_127 {J : JT} {Q : QT} (R : R_X11_powerOf J Q) {ls : Ls} {st : St} {M : Mem} (h : wpl J Q b_X11_powerOf_127 ls st M) : J 127 ls st M := R.2.2.2.2.2.2.2.2.1 ls st M h
theorem R_X11_powerOf_129 {J : JT} {Q : QT} (R : R_X11_powerOf J Q) {ls : Ls} {st : St} {M : Mem} (h : wpl J Q b_X11_powerOf_129 ls st M) : J 129 ls st M := R.2.2.2.2.2.2.2.2.2.1 ls st M h
theorem R_X11_powerOf_135 {J : JT} {Q : QT} (R : R_X11_powerOf J Q) {ls : Ls} {st : St} {M : Mem} (h : wpl J Q b_X11_powerOf_135 ls st M) : J 135 ls st M := R.2.2.2.2.2.2.2.2.2.2 ls st M h
theorem own_sum {Ab : Mem} (ho : HallOK Ab) (s : Nat) : wS (ownN Ab) s (nP Ab) = sumN (fun t => if s.testBit (Ab 0 t).toNat = true then Ab 1 t else 0) (nT Ab) := by
  have p2 := (nP_le ho).2
  exact own_swap (ow := fun t => Ab 0 t) (w := fun t => Ab 1 t) (c := fun p => s.testBit p) (np := nP Ab) (nt := nT Ab) (fun t ht => by have := (ho.2.2.2.2.2.2.1 t ht).1; omega)
theorem P_X11_powerOf {J : JT} {Q : QT} (R : R_X11_powerOf J Q) {as : List Vl} {M : Mem} (h : nf G_X11_powerOf as M Q) : (enL as).length ≤ 8 ∧ J 0 (padL 8 (enL as)) [] M := by
  unfold nf G_X11_powerOf at h
  split at h
  · rename_i k pz
    obtain ⟨Ab, ⟨rfl, p0, p1⟩, hm, hQ⟩ := h
    have hm' := hm
    obtain ⟨ho, ⟨m0, m1, -⟩, hpe, ht, -⟩ := hm
    obtain ⟨n1, n2⟩ := nT_le ho
    obtain ⟨q1, q2⟩ := nP_le ho
    have q10 := p10 q1
    have ob := own_bd ho pz
    have lb := all_bd ho
    obtain ⟨j, hj⟩ : ∃ j : Nat, pz = (j : Int) := ⟨pz.toNat, by omega⟩
    have pn : pz.toNat = j := by omega
    rw [pn] at hQ
    have key : ∀ i : Nat, i ≤ 2 ^ nP Ab → ∀ (x acc : Int) (z6 z7 : Option Vl), x = (i : Int) → acc = sumN (fun s => if swC Ab j s = true then 1 else 0) i → J 17 [some (vR 159), some (vI pz), some (vI acc), some (vI (allP Ab)), some (vI (ownP Ab pz)), some (vI x), z6, z7] [] M := by
      refine dn ?_ ?_
      · intro x acc z6 z7 hx ha
        rw [ha]
        exact R_X11_powerOf_17 R (an o159 (an (ak_of sh163 (by decide) (by decide)) (bt (show shlI 1 (M 163 0) ≤ x by rw [m0, ← q2, shl1 _ (by omega)]; omega) (R_X11_powerOf_135 R hQ))))
      · intro i hi ih x acc z6 z7 hx ha
        have hxn : x.toNat = i := by omega
        have ab : 0 ≤ acc ∧ acc ≤ (i : Int) * 1 := by rw [ha]; exact sumN_bd (by decide) (fun i _ => by split <;> omega)
        have wi := wo_bd ho i
        have inner : ¬ i.testBit j = true → ∀ t, t ≤ nT Ab → ∀ (y sm : Int), y = (t : Int) → sm = sumN (fun t => if i.testBit (Ab 0 t).toNat = true then Ab 1 t else 0) t → J 49 [some (vR 159), some (vI pz), some (vI acc), some (vI (allP Ab)), some (vI (ownP Ab pz)), some (vI x), some (vI sm), some (vI y)] [] M := by
          intro nb
          refine dn ?_ ?_
          · intro y sm hy hs
            have bd := wt_bd ho (c := fun t => i.testBit (Ab 0 t).toNat = true) (n := nT Ab) (Nat.le_refl _)
            rw [← hs] at bd
            have es : sm = wS (ownN Ab) i (nP Ab) := hs.trans (own_sum ho i).symm
            have em : f_mul 2 sm = 2 * sm := w1 (by omega) (by omega) rfl
            have ea : f_mul 2 (f_add sm (ownP Ab pz)) = 2 * (sm + ownP Ab pz) := by
              rw [show f_add sm (ownP Ab pz) = sm + ownP Ab pz from w1 (by omega) (by omega) rfl]
              exact w1 (by omega) (by omega) rfl
            have fin : ∀ v : Int, v = (if swC Ab j i = true then 1 else 0) → J 127 [some (vR 159), some (vI pz), some (vI acc), some (vI (allP Ab)), some (vI (ownP Ab pz)), some (vI x), some (vI sm), some (vI y)] [vI v, vI acc] M := by
              intro v hv
              have vb : 0 ≤ v ∧ v ≤ 1 := by rw [hv]; split <;> omega
              refine R_X11_powerOf_127 R (R_X11_powerOf_129 R (ih _ _ _ _ (wn hx (by omega)) ?_))
              rw [sumN, ← ha, ← hv]
              exact w1 (by omega) (by omega) rfl
            have oe : ownP Ab pz = ownN Ab j := by unfold ownN; rw [hj]
            refine R_X11_powerOf_49 R (an o159 (an (ak_of sh163 (by decide) (by decide)) (bt (show M 163 1 ≤ y by rw [m1]; omega) (R_X11_powerOf_102 R (br (fun g => R_X11_powerOf_126 R (fin 0 ?_)) (fun g => br (fun g2 => R_X11_powerOf_126 R (fin 0 ?_)) (fun g2 => fin 1 ?_)))))))
            · have g : allP Ab < f_mul 2 sm := g
              rw [em, es] at g
              rw [if_neg]
              simp [swC, g]
            · have g2 : f_mul 2 (f_add sm (ownP Ab pz)) ≤ allP Ab := g2
              rw [ea, es, oe] at g2
              rw [if_neg]
              simp only [swC, Bool.and_eq_true, decide_eq_true_eq]
              omega
            · have g : ¬ allP Ab < f_mul 2 sm := g
              have g2 : ¬ f_mul 2 (f_add sm (ownP Ab pz)) ≤ allP Ab := g2
              rw [em, es] at g
              rw [ea, es, oe] at g2
              rw [if_pos]
              have nb2 : i.testBit j = false := Bool.eq_false_iff.mpr nb
              simp only [swC, nb2, decide_eq_false g]
              simp
              omega
          · intro t htt iht y sm hy hs
            have hyn : y.toNat = t := by omega
            obtain ⟨t0, t1, -, -⟩ := ht t htt
            have oi := (ho.2.2.2.2.2.2.1 t htt).1
            have bd := wt_bd ho (c := fun t => i.testBit (Ab 0 t).toNat = true) (n := t + 1) (by omega)
            have b0 := wt_bd ho (c := fun t => i.testBit (Ab 0 t).toNat = true) (n := t) (by omega)
            have go : ∀ v : Int, v = (if i.testBit (Ab 0 t).toNat = true then Ab 1 t else 0) → J 93 [some (vR 159), some (vI pz), some (vI acc), some (vI (allP Ab)), some (vI (ownP Ab pz)), some (vI x), some (vI sm), some (vI y)] [vI v, vI sm] M := by
              intro v hv
              refine R_X11_powerOf_93 R (iht _ _ (wn hy (by omega)) ?_)
              rw [sumN] at bd ⊢
              rw [hs, hv]
              exact w1 (by omega) (by omega) rfl
            refine R_X11_powerOf_49 R (an o159 (an (ak_of sh163 (by decide) (by decide)) (bf (show ¬ M 163 1 ≤ y by rw [m1]; omega) (an o159 (an (ak_of sh201 (by omega) (by omega)) ?_)))))
            rw [th_row hyn]
            refine an (ak_of (sh_th t (by omega)) (by decide) (by decide)) ?_
            rw [show M (202 + t) (Int.toNat 0) = Ab 0 t from t0]
            have eb := bit_and (x := x) (i := Ab 0 t) (by omega) (by omega) oi.1 (by omega)
            have ec : bitB x (Ab 0 t) = i.testBit (Ab 0 t).toNat := by unfold bitB; rw [hxn]
            refine br (fun q => R_X11_powerOf_92 R (go 0 ?_)) (fun q => an o159 (an (ak_of sh201 (by omega) (by omega)) ?_))
            · have q : ¬ andI (shrI x (Ab 0 t)) 1 = 1 := q
              rw [eb, ec] at q
              rw [if_neg (fun z => q (by rw [z]; rfl))]
            · have q : andI (shrI x (Ab 0 t)) 1 = 1 := Classical.not_not.mp q
              rw [eb, ec] at q
              rw [th_row hyn]
              refine an (ak_of (sh_th t (by omega)) (by decide) (by decide)) (go _ ?_)
              rw [if_pos]
              · exact t1
              · cases hb : i.testBit (Ab 0 t).toNat with
                | true => rfl
                | false => rw [hb] at q; exact absurd q (by decide)
        have eb := bit_and (x := x) (i := pz) (by omega) (by omega) p0 (by omega)
        have ec : bitB x pz = i.testBit j := by unfold bitB; rw [hxn, pn]
        refine R_X11_powerOf_17 R (an o159 (an (ak_of sh163 (by decide) (by decide)) (bf (show ¬ shlI 1 (M 163 0) ≤ x by rw [m0, ← q2, shl1 _ (by omega)]; omega) (br (fun q => R_X11_powerOf_43 R (inner ?_ 0 (Nat.zero_le _) _ _ rfl rfl)) (fun q => R_X11_powerOf_129 R (ih _ _ _ _ (wn hx (by omega)) ?_))))))
        · have q : ¬ andI (shrI x pz) 1 = 1 := q
          rw [eb, ec] at q
          exact fun z => q (by rw [z]; rfl)
        · have q : andI (shrI x pz) 1 = 1 := Classical.not_not.mp q
          rw [eb, ec] at q
          rw [sumN, if_neg, ha]
          · omega
          · cases hb : i.testBit j with
            | true => simp [swC, hb]
            | false => rw [hb] at q; exact absurd q (by decide)
    exact ⟨Nat.le_of_ble_eq_true rfl, R_X11_powerOf_0 R (an o159 ⟨Ab, rfl, hm', an o159 ⟨Ab, rfl, hm', key 0 (Nat.zero_le _) _ _ _ _ rfl rfl⟩⟩)⟩

  · exact h.elim