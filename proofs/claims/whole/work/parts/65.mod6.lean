def MdV (M Ab : Mem) : Prop := VoteOK Ab 15 (Ab 10 6) ∧ M 159 23 = Ab 10 6 ∧ ∀ v, v < nV Ab → M (279 + v) 0 = Ab 15 v ∧ M (279 + v) 1 = Ab 16 v ∧ M (279 + v) 2 = Ab 17 v
def G_X11_areRight : FN := fun as M Q => match as with
  | [.inr (.inl k), .inl x] => ∃ Ab, (k = 159 ∧ 0 ≤ x ∧ x < 16384) ∧ MdP M Ab ∧ MdV M Ab ∧ bq (gdH Ab x.toNat = true) Q M
  | _ => False
def b_X11_areRight_0 : List AT := [tx_ic 0, tx_is 2, tx_fall 2]
def b_X11_areRight_2 : List AT := [tx_il 2, tx_al 0, tx_gi 11 23, tx_cmp r_ge 150, tx_ic 0, tx_is 3, tx_ic 0, tx_is 4, tx_fall 15]
def b_X11_areRight_15 : List AT := [tx_il 4, tx_al 0, tx_gr 11 4, tx_ic 1, tx_ia, tx_cmp r_ge 130, tx_il 1, tx_il 4, tx_bin shrI, tx_ic 1, tx_bin andI, tx_ic 1, tx_cmp r_ne 50, tx_al 0, tx_gr 11 42, tx_il 4, tx_aa 5, tx_ic 1, tx_ia, tx_ic 2, tx_div, tx_fall 59]
def b_X11_areRight_50 : List AT := [tx_al 0, tx_gr 11 42, tx_il 4, tx_aa 5, tx_ic 1, tx_ia, tx_fall 59]
def b_X11_areRight_59 : List AT := [tx_is 5, tx_il 3, tx_al 0, tx_gr 11 119, tx_il 2, tx_aa 5, tx_ic 0, tx_ia, tx_al 0, tx_gr 11 42, tx_il 4, tx_aa 5, tx_ic 0, tx_ia, tx_bin shrI, tx_ic 1, tx_bin andI, tx_ic 1, tx_cmp r_ne 91, tx_il 5, tx_fall 122]
def b_X11_areRight_91 : List AT := [tx_al 0, tx_gr 11 119, tx_il 2, tx_aa 5, tx_ic 1, tx_ia, tx_al 0, tx_gr 11 42, tx_il 4, tx_aa 5, tx_ic 0, tx_ia, tx_bin shrI, tx_ic 1, tx_bin andI, tx_ic 1, tx_cmp r_ne 121, tx_il 5, tx_neg, tx_fall 122]
def b_X11_areRight_121 : List AT := [tx_ic 0, tx_fall 122]
def b_X11_areRight_122 : List AT := [tx_bin f_add, tx_is 3, tx_inc 4 1, tx_fall 15]
def b_X11_areRight_130 : List AT := [tx_il 3, tx_al 0, tx_gr 11 119, tx_il 2, tx_aa 5, tx_ic 2, tx_ia, tx_cmp r_eq 144, tx_ic 0, tx_rz]
def b_X11_areRight_144 : List AT := [tx_inc 2 1, tx_fall 2]
def b_X11_areRight_150 : List AT := [tx_ic 1, tx_rz]
def R_X11_areRight (J : JT) (Q : QT) : Prop := (∀ ls st M, wpl J Q b_X11_areRight_0 ls st M → J 0 ls st M) ∧ (∀ ls st M, wpl J Q b_X11_areRight_2 ls st M → J 2 ls st M) ∧ (∀ ls st M, wpl J Q b_X11_areRight_15 ls st M → J 15 ls st M) ∧ (∀ ls st M, wpl J Q b_X11_areRight_50 ls st M → J 50 ls st M) ∧ (∀ ls st M, wpl J Q b_X11_areRight_59 ls st M → J 59 ls st M) ∧ (∀ ls st M, wpl J Q b_X11_areRight_91 ls st M → J 91 ls st M) ∧ (∀ ls st M, wpl J Q b_X11_areRight_121 ls st M → J 121 ls st M) ∧ (∀ ls st M, wpl J Q b_X11_areRight_122 ls st M → J 122 ls st M) ∧ (∀ ls st M, wpl J Q b_X11_areRight_130 ls st M → J 130 ls st M) ∧ (∀ ls st M, wpl J Q b_X11_areRight_144 ls st M → J 144 ls st M) ∧ (∀ ls st M, wpl J Q b_X11_areRight_150 ls st M → J 150 ls st M)
theorem R_X11_areRight_0 {J : JT} {Q : QT} (R : R_X11_areRight J Q) {ls : Ls} {st : St} {M : Mem} (h : wpl J Q b_X11_areRight_0 ls st M) : J 0 ls st M := R.1 ls st M h
theorem R_X11_areRight_2 {J : JT} {Q : QT} (R : R_X11_areRight J Q) {ls : Ls} {st : St} {M : Mem} (h : wpl J Q b_X11_areRight_2 ls st M) : J 2 ls st M := R.2.1 ls st M h
theorem R_X11_areRight_15 {J : JT} {Q : QT} (R : R_X11_areRight J Q) {ls : Ls} {st : St} {M : Mem} (h : wpl J Q b_X11_areRight_15 ls st M) : J 15 ls st M := R.2.2.1 ls st M h
theorem R_X11_areRight_50 {J : JT} {Q : QT} (R : R_X11_areRight J Q) {ls : Ls} {st : St} {M : Mem} (h : wpl J Q b_X11_areRight_50 ls st M) : J 50 ls st M := R.2.2.2.1 ls st M h
theorem R_X11_areRight_59 {J : JT} {Q : QT} (R : R_X11_areRight J Q) {ls : Ls} {st : St} {M : Mem} (h : wpl J Q b_X11_areRight_59 ls st M) : J 59 ls st M := R.2.2.2.2.1 ls st M h
theorem R_X11_areRight_91 {J : JT} {Q : QT} (R : R_X11_areRight J Q) {ls : Ls} {st : St} {M : Mem} (h : wpl J Q b_X11_areRight_91 ls st M) : J 91 ls st M := R.2.2.2.2.2.1 ls st M h
theorem R_X11_areRight_121 {J : JT} {Q : QT} (R : R_X11_areRight J Q) {ls : Ls} {st : St} {M : Mem} (h : wpl J Q b_X11_areRight_121 ls st M) : J 121 ls st M := R.2.2.2.2.2.2.1 ls st M h
theorem R_X11_areRight_122 {J : JT} {Q : QT} (R : R_X11_areRight J Q) {ls : Ls} {st : St} {M : Mem} (h : wpl J Q b_X11_areRight_122 ls st M) : J 122 ls st M := R.2.2.2.2.2.2.2.1 ls st M h
theorem R_X11_areRight_130 {J : JT} {Q : QT} (R : R_X11_areRight J Q) {ls : Ls} {st : St} {M : Mem} (h : wpl J Q b_X11_areRight_130 ls st M) : J 130 ls st M := R.2.2.2.2.2.2.2.2.1 ls st M h
theorem R_X11_areRight_144 {J : JT} {Q : QT} (R : R_X11_areRight J Q) {ls : Ls} {st : St} {M : Mem} (h : wpl J Q b_X11_areRight_144 ls st M) : J 144 ls st M := R.2.2.2.2.2.2.2.2.2.1 ls st M h
theorem R_X11_areRight_150 {J : JT} {Q : QT} (R : R_X11_areRight J Q) {ls : Ls} {st : St} {M : Mem} (h : wpl J Q b_X11_areRight_150 ls st M) : J 150 ls st M := R.2.2.2.2.2.2.2.2.2.2 ls st M h
theorem sh278 : SH 278 = (5, 9, 279, 1) := rfl
theorem vo_row {x : Int} {i : Nat} (h : x.toNat = i) : (SH (159 + 119)).2.2.1 + (SH (159 + 119)).2.2.2 * x.toNat = 279 + i := by
  rw [h]
  show 279 + 1 * i = 279 + i
  omega
theorem sh_vo : ∀ i, i < 9 → SH (279 + i) = (1, 3, 0, 0) := by decide
theorem bit_yes {x i : Int} (h0 : 0 ≤ x) (h1 : x < 2147483648) (h2 : 0 ≤ i) (h3 : i < 32) : andI (shrI x i) 1 = 1 ↔ bitB x i = true := by
  rw [bit_and h0 h1 h2 h3]
  cases bitB x i <;> simp
theorem P_X11_areRight {J : JT} {Q : QT} (R : R_X11_areRight J Q) {as : List Vl} {M : Mem} (h : nf G_X11_areRight as M Q) : (enL as).length ≤ 6 ∧ J 0 (padL 6 (enL as)) [] M := by
  unfold nf G_X11_areRight at h
  split at h
  · rename_i k s
    obtain ⟨Ab, ⟨rfl, s0, s1⟩, hm, hv, hQ⟩ := h
    obtain ⟨ho, ⟨-, m1, -⟩, -, ht, -⟩ := hm
    obtain ⟨vok, v23, vr⟩ := hv
    obtain ⟨n1, n2⟩ := nT_le ho
    have np := ho.1
    have e6 : ((nV Ab : Nat) : Int) = Ab 10 6 := by have := vok.1; unfold nV; omega
    have v9 : nV Ab ≤ 9 := by have := vok.1; omega
    have key : ∀ i, i ≤ nV Ab → ∀ (x : Int) (z3 z4 z5 : Option Vl), x = (i : Int) → (∀ v, v < i → ovF Ab v s.toNat = 0) → J 2 [some (vR 159), some (vI s), some (vI x), z3, z4, z5] [] M := by
      refine dn ?_ ?_
      · intro x z3 z4 z5 hx h1
        exact R_X11_areRight_2 R (an o159 (bt (show M 159 23 ≤ x by rw [v23]; omega) (R_X11_areRight_150 R (an (Or.inr rfl) (hQ.1 (decide_eq_true h1))))))
      · intro i hi ih x z3 z4 z5 hx h1
        have hxn : x.toNat = i := by omega
        obtain ⟨w0, w1', w2⟩ := vr i hi
        obtain ⟨vo1, vo2, vo3⟩ := vok.2 i hi
        have c0 : 0 ≤ Ab 16 i := vo2.1
        have pb := pro_lt ho vo1.2
        have cb := pro_lt ho vo2.2
        have inner : ∀ j, j ≤ nT Ab → ∀ (y acc : Int) (z5 : Option Vl), y = (j : Int) → acc = sumN (fun t => sg Ab i t * hw Ab s.toNat t) j → J 15 [some (vR 159), some (vI s), some (vI x), some (vI acc), some (vI y), z5] [] M := by
          refine dn ?_ ?_
          · intro y acc z5 hy ha
            refine R_X11_areRight_15 R (an o159 (an (ak_of sh163 (by decide) (by decide)) (bt (show M 163 1 ≤ y by rw [m1]; omega) (R_X11_areRight_130 R (an o159 (an (ak_of sh278 (by omega) (by omega)) ?_))))))
            rw [vo_row hxn]
            refine an (ak_of (sh_vo i (by omega)) (by decide) (by decide)) ?_
            rw [show M (279 + i) (Int.toNat 2) = Ab 17 i from w2]
            refine br (fun g => R_X11_areRight_144 R (ih _ _ _ _ (wn hx (by omega)) (fun v hv => ?_))) (fun g => an (Or.inl rfl) (hQ.2 (fun z => g ?_)))
            · have g : acc = Ab 17 i := g
              by_cases e : v = i
              · subst e; unfold ovF; omega
              · exact h1 v (by omega)
            · have := of_decide_eq_true z i hi
              unfold ovF at this
              show acc = Ab 17 i
              omega
          · intro j hj ihj y acc z5 hy ha
            have hyn : y.toNat = j := by omega
            obtain ⟨t0, t1, -, -⟩ := ht j hj
            have oj := ho.2.2.2.2.2.2.1 j hj
            have hwb := hw_bd ho s.toNat hj
            have bdj := ov_bd ho (f := fun t => sg Ab i t * hw Ab s.toNat t) (fun t ht => by have := hw_bd ho s.toNat ht; exact sgw i t (by omega) (by omega)) (n := j) (by omega)
            rw [← ha] at bdj
            have at122 : ∀ (v : Int) (z5 : Option Vl), v = sg Ab i j * hw Ab s.toNat j → J 122 [some (vR 159), some (vI s), some (vI x), some (vI acc), some (vI y), z5] [vI v, vI acc] M := by
              intro v z5 hv
              have vb := sgw (Ab := Ab) i j (x := hw Ab s.toNat j) (by omega) (by omega)
              rw [← hv] at vb
              refine R_X11_areRight_122 R (ihj _ _ _ (wn hy (by omega)) ?_)
              rw [sumN, ← ha, ← hv]
              exact w1 (by omega) (by omega) rfl
            have at59 : ∀ w : Int, w = hw Ab s.toNat j → J 59 [some (vR 159), some (vI s), some (vI x), some (vI acc), some (vI y), z5] [vI w] M := by
              intro w hw'
              refine R_X11_areRight_59 R (an o159 (an (ak_of sh278 (by omega) (by omega)) ?_))
              rw [vo_row hxn]
              refine an (ak_of (sh_vo i (by omega)) (by decide) (by decide)) ?_
              rw [show M (279 + i) (Int.toNat 0) = Ab 15 i from w0]
              refine an o159 (an (ak_of sh201 (by omega) (by omega)) ?_)
              rw [th_row hyn]
              refine an (ak_of (sh_th j (by omega)) (by decide) (by decide)) ?_
              rw [show M (202 + j) (Int.toNat 0) = Ab 0 j from t0]
              have eb := bit_yes vo1.1 pb oj.1.1 (i := Ab 0 j) (by omega)
              refine br (fun q => R_X11_areRight_91 R (an o159 (an (ak_of sh278 (by omega) (by omega)) ?_))) (fun q => at122 w _ ?_)
              · have q : ¬ bitB (Ab 15 i) (Ab 0 j) = true := fun z => q (eb.mpr z)
                rw [vo_row hxn]
                refine an (ak_of (sh_vo i (by omega)) (by decide) (by decide)) ?_
                rw [show M (279 + i) (Int.toNat 1) = Ab 16 i from w1']
                refine an o159 (an (ak_of sh201 (by omega) (by omega)) ?_)
                rw [th_row hyn]
                refine an (ak_of (sh_th j (by omega)) (by decide) (by decide)) ?_
                rw [show M (202 + j) (Int.toNat 0) = Ab 0 j from t0]
                have ec := bit_yes c0 cb oj.1.1 (i := Ab 0 j) (by omega)
                refine br (fun q2 => R_X11_areRight_121 R (at122 0 _ ?_)) (fun q2 => at122 (w32 (-w)) _ ?_)
                · have q2 : ¬ bitB (Ab 16 i) (Ab 0 j) = true := fun z => q2 (ec.mpr z)
                  unfold sg
                  rw [if_neg q, if_neg q2]
                  omega
                · have q2 : bitB (Ab 16 i) (Ab 0 j) = true := ec.mp (Classical.not_not.mp q2)
                  unfold sg
                  rw [if_neg q, if_pos q2]
                  exact w1 (by omega) (by omega) (by omega)
              · have q : bitB (Ab 15 i) (Ab 0 j) = true := eb.mp (Classical.not_not.mp q)
                unfold sg
                rw [if_pos q]
                omega
            have es := bit_yes (x := s) (i := y) s0 (by omega) (by omega) (by omega)
            have eu : bitB s y = s.toNat.testBit j := by unfold bitB; rw [hyn]
            refine R_X11_areRight_15 R (an o159 (an (ak_of sh163 (by decide) (by decide)) (bf (show ¬ M 163 1 ≤ y by rw [m1]; omega) (br (fun q => R_X11_areRight_50 R (an o159 (an (ak_of sh201 (by omega) (by omega)) ?_))) (fun q => an o159 (an (ak_of sh201 (by omega) (by omega)) ?_))))))
            · have q : ¬ s.toNat.testBit j = true := fun z => q (es.mpr (by rw [eu]; exact z))
              rw [th_row hyn]
              refine an (ak_of (sh_th j (by omega)) (by decide) (by decide)) (at59 _ ?_)
              unfold hw
              rw [if_neg q]
              exact t1
            · have q : s.toNat.testBit j = true := by rw [← eu]; exact es.mp (Classical.not_not.mp q)
              rw [th_row hyn]
              refine an (ak_of (sh_th j (by omega)) (by decide) (by decide)) (an (by decide) (at59 _ ?_))
              unfold hw
              rw [if_pos q, show M (202 + j) (Int.toNat 1) = Ab 1 j from t1, Int.tdiv_eq_ediv_of_nonneg (by omega)]
              exact w1 (by omega) (by omega) rfl
        exact R_X11_areRight_2 R (an o159 (bf (show ¬ M 159 23 ≤ x by rw [v23]; omega) (inner 0 (Nat.zero_le _) _ _ _ rfl rfl)))
    exact ⟨Nat.le_of_ble_eq_true rfl, R_X11_areRight_0 R (key 0 (Nat.zero_le _) _ _ _ _ rfl (fun v hv => by omega))⟩

  · exact h.elim