
def G_X11_passesLater : FN := fun as M Q => match as with
  | [.inr (.inl k), .inl m, .inl l] => ∃ Ab, (k = 159 ∧ (0 ≤ m ∧ m < Ab 10 4) ∧ (0 ≤ l ∧ l ≤ 60) ∧ M 159 35 = -1) ∧ MdP M Ab ∧ MdL M Ab ∧ ∀ M' : Mem, (∀ u v, (u < 292 ∨ 330 < u) → ¬ (u = 159 ∧ (v = 36 ∨ v = 37)) → M' u v = M u v) → M' 159 37 = l → bq (spB Ab m.toNat l = true) Q M'
  | _ => False
def b_X11_passesLater_0 : List AT := tx_al 0 :: tx_al 0 :: tx_gr 11 66 :: tx_il 1 :: tx_aa 5 :: tx_ic 0 :: tx_ia :: tx_pi 11 36 :: tx_al 0 :: tx_il 2 :: tx_pi 11 37 :: tx_al 0 :: tx_ic 199 :: tx_callv 11 (nf G_X11_goes) 1 :: tx_al 0 :: tx_al 0 :: tx_gr 11 4 :: tx_ic 4 :: tx_ia :: tx_callv 11 (nf G_X11_passesBy) 1 :: tx_il 1 :: tx_bin shrI :: tx_ic 1 :: tx_bin andI :: tx_ic 1 :: tx_cmp r_ne 46 :: tx_ic 1 :: tx_fall 47 :: []
def b_X11_passesLater_46 : List AT := [tx_ic 0, tx_fall 47]
def b_X11_passesLater_47 : List AT := [tx_rz]
def R_X11_passesLater (J : JT) (Q : QT) : Prop := (∀ ls st M, wpl J Q b_X11_passesLater_0 ls st M → J 0 ls st M) ∧ (∀ ls st M, wpl J Q b_X11_passesLater_46 ls st M → J 46 ls st M) ∧ (∀ ls st M, wpl J Q b_X11_passesLater_47 ls st M → J 47 ls st M)
theorem R_X11_passesLater_0 {J : JT} {Q : QT} (R : R_X11_passesLater J Q) {ls : Ls} {st : St} {M : Mem} (h : wpl J Q b_X11_passesLater_0 ls st M) : J 0 ls st M := R.1 ls st M h
theorem R_X11_passesLater_46 {J : JT} {Q : QT} (R : R_X11_passesLater J Q) {ls : Ls} {st : St} {M : Mem} (h : wpl J Q b_X11_passesLater_46 ls st M) : J 46 ls st M := R.2.1 ls st M h
theorem R_X11_passesLater_47 {J : JT} {Q : QT} (R : R_X11_passesLater J Q) {ls : Ls} {st : St} {M : Mem} (h : wpl J Q b_X11_passesLater_47 ls st M) : J 47 ls st M := R.2.2 ls st M h
theorem P_X11_passesLater {J : JT} {Q : QT} (R : R_X11_passesLater J Q) {as : List Vl} {M : Mem} (h : nf G_X11_passesLater as M Q) : (enL as).length ≤ 3 ∧ J 0 (padL 3 (enL as)) [] M := by
  unfold nf G_X11_passesLater at h
  split at h
  · rename_i k m l
    obtain ⟨Ab, ⟨rfl, ⟨m0, m1⟩, ⟨l0, l1⟩, w35⟩, hm, hl, hQ⟩ := h
    have ho := hm.1
    obtain ⟨q1, q2⟩ := nM_le ho
    have hmn : m.toNat < nM Ab := by omega
    have mm := (hm.2.2.2.2.2 _ hmn).1
    have ob := (ho.2.2.2.2.2.2.2.2 _ hmn).1
    have lw := ho.2.2.2.2.1
    refine ⟨Nat.le_of_ble_eq_true rfl, R_X11_passesLater_0 R (an o159 (an (ak_of sh225 m0 (by omega)) ?_))⟩
    rw [mo_row rfl]
    refine an (ak_of (sh_mo _ (by omega)) (by decide) (by decide)) (an o159 (an o159 ?_))
    rw [show M (226 + m.toNat) (Int.toNat 0) = Ab 7 m.toNat from mm]
    generalize hM2 : up (up M 159 36 (Ab 7 m.toNat)) 159 37 l = M2
    have f2 : ∀ u v, ¬ (u = 159 ∧ (v = 36 ∨ v = 37)) → M2 u v = M u v := fun u v hu => by rw [← hM2, up_ne (by omega), up_ne (by omega)]
    have e36 : M2 159 36 = Ab 7 m.toNat := by rw [← hM2, up_ne (by omega)]; exact up_eq
    have e37 : M2 159 37 = l := by rw [← hM2]; exact up_eq
    have e35 : M2 159 35 = -1 := (f2 _ _ (by omega)).trans w35
    have hm2 : MdP M2 Ab := hm.kept (fun u v a b => f2 u v (by omega))
    refine an o159 ⟨Ab, ⟨rfl, by decide, by decide, by rw [e37]; exact l0, by rw [e37]; omega⟩, hm2, hl.kept (f2 _ _ (by omega)) (fun u v a b => f2 u v (by omega)), fun M3 g1 g2 g3 g4 => an o159 (an (ak_of sh163 (by decide) (by decide)) (an o159 ?_))⟩
    have hm3 : MdP M3 Ab := hm2.kept (fun u v a b => g1 u v (by omega))
    rw [show M3 (159 + 4) (Int.toNat 4) = Ab 10 0 from hm3.2.1.2.2.2.2]
    refine ⟨Ab, ⟨rfl, by omega, by omega⟩, hm3, ?_⟩
    have hq := hQ M3 (fun u v hu hv => (g1 u v hu).trans (f2 u v hv)) ((g1 _ _ (by omega)).trans e37)
    have el : ltr (Ab 7 m.toNat) l (Ab 7 m.toNat) = Ab 7 m.toNat + l := by unfold ltr; rw [if_pos (Int.le_refl _)]
    have er : rnM M2 Ab ((Ab 7 m.toNat + l).toNat + 1) = spR Ab m.toNat l := by unfold rnM spR; rw [e35, e36, e37]
    have ew : (((Ab 10 0).toNat : Nat) : Int) = Ab 10 0 := by omega
    rw [e36, e37] at g4
    have a0 := g4 m.toNat (Ab 10 0).toNat 0 hmn (by omega) (by decide) (by rw [el]; omega)
    have a1 := g4 m.toNat (Ab 10 0).toNat 1 hmn (by omega) (by decide) (by rw [el]; omega)
    rw [el, er, ew] at a0 a1
    generalize hc : (fun i => decide (M3 (300 + 4 * i + (Ab 10 0).toNat) 1 < M3 (300 + 4 * i + (Ab 10 0).toNat) 0)) = c
    have cb : c m.toNat = spB Ab m.toNat l := by
      rw [← hc]
      show decide (M3 (300 + 4 * m.toNat + (Ab 10 0).toNat) 1 < M3 (300 + 4 * m.toNat + (Ab 10 0).toNat) 0) = _
      rw [a0, a1]
      rfl
    have lt := pbN_lt c (nM Ab)
    have lt8 : 2 ^ nM Ab ≤ 2 ^ 8 := Nat.pow_le_pow_right (by decide) q1
    have eb := bit_yes (x := ((pbN c (nM Ab) : Nat) : Int)) (i := m) (by omega) (by omega) m0 (by omega)
    have eb2 : bitB ((pbN c (nM Ab) : Nat) : Int) m = spB Ab m.toNat l := (pbN_bit c _ _ hmn).trans cb
    rw [eb2] at eb
    exact br (fun g => R_X11_passesLater_46 R (R_X11_passesLater_47 R (an (Or.inl rfl) (hq.2 (fun z => g (eb.mpr z)))))) (fun g => R_X11_passesLater_47 R (an (Or.inr rfl) (hq.1 (eb.mp (Classical.not_not.mp g)))))

  · exact h.elim
def G_X11_speech : FN := fun as M Q => match as with
  | [.inr (.inl k), .inl m, .inl l] => k = 159 ∧ mS cd2 (an_speech m l) M Q
  | _ => False
def G_X11_tired : FN := fun as M Q => match as with
  | [.inr (.inl k), .inl m] => k = 159 ∧ mS cd1 (an_tired m) M Q
  | _ => False
def b_X11_speech_0 : List AT := [tx_al 0, tx_ic 0, tx_pi 11 0, tx_al 0, tx_al 0, tx_il 1, tx_callv 11 (nf G_X11_isMotion) 1, tx_ifz r_ne 18, tx_ic 1, tx_fall 19]
def b_X11_speech_18 : List AT := [tx_ic 0, tx_fall 19]
def b_X11_speech_19 : List AT := [tx_ic 1, tx_ic 0, tx_callv 11 (nf G_X11_bad) 3, tx_ifz r_ne 51, tx_al 0, tx_il 2, tx_ic 1, tx_ic 60, tx_call (nf G_X11_in) 3, tx_ifz r_ne 42, tx_ic 1, tx_fall 43]
def b_X11_speech_42 : List AT := [tx_ic 0, tx_fall 43]
def b_X11_speech_43 : List AT := [tx_ic 2, tx_ic 1, tx_callv 11 (nf G_X11_bad) 3, tx_ifz r_eq 53, tx_fall 51]
def b_X11_speech_51 : List AT := [tx_ic 0, tx_rz]
def b_X11_speech_53 : List AT := [tx_al 0, tx_il 1, tx_il 2, tx_callv 11 (nf G_X11_passesLater) 2, tx_rz]
def R_X11_speech (J : JT) (Q : QT) : Prop := (∀ ls st M, wpl J Q b_X11_speech_0 ls st M → J 0 ls st M) ∧ (∀ ls st M, wpl J Q b_X11_speech_18 ls st M → J 18 ls st M) ∧ (∀ ls st M, wpl J Q b_X11_speech_19 ls st M → J 19 ls st M) ∧ (∀ ls st M, wpl J Q b_X11_speech_42 ls st M → J 42 ls st M) ∧ (∀ ls st M, wpl J Q b_X11_speech_43 ls st M → J 43 ls st M) ∧ (∀ ls st M, wpl J Q b_X11_speech_51 ls st M → J 51 ls st M) ∧ (∀ ls st M, wpl J Q b_X11_speech_53 ls st M → J 53 ls st M)
theorem R_X11_speech_0 {J : JT} {Q : QT} (R : R_X11_speech J Q) {ls : Ls} {st : St} {M : Mem} (h : wpl J Q b_X11_speech_0 ls st M) : J 0 ls st M := R.1 ls st M h
theorem R_X11_speech_18 {J : JT} {Q : QT} (R : R_X11_speech J Q) {ls : Ls} {st : St} {M : Mem} (h : wpl J Q b_X11_speech_18 ls st M) : J 18 ls st M := R.2.1 ls st M h
theorem R_X11_speech_19 {J : JT} {Q : QT} (R : R_X11_speech J Q) {ls : Ls} {st : St} {M : Mem} (h : wpl J Q b_X11_speech_19 ls st M) : J 19 ls st M := R.2.2.1 ls st M h
theorem R_X11_speech_42 {J : JT} {Q : QT} (R : R_X11_speech J Q) {ls : Ls} {st : St} {M : Mem} (h : wpl J Q b_X11_speech_42 ls st M) : J 42 ls st M := R.2.2.2.1 ls st M h
theorem R_X11_speech_43 {J : JT} {Q : QT} (R : R_X11_speech J Q) {ls : Ls} {st : St} {M : Mem} (h : wpl J Q b_X11_speech_43 ls st M) : J 43 ls st M := R.2.2.2.2.1 ls st M h
theorem R_X11_speech_51 {J : JT} {Q : QT} (R : R_X11_speech J Q) {ls : Ls} {st : St} {M : Mem} (h : wpl J Q b_X11_speech_51 ls st M) : J 51 ls st M := R.2.2.2.2.2.1 ls st M h
theorem R_X11_speech_53 {J : JT} {Q : QT} (R : R_X11_speech J Q) {ls : Ls} {st : St} {M : Mem} (h : wpl J Q b_X11_speech_53 ls st M) : J 53 ls st M := R.2.2.2.2.2.2 ls st M h
def b_X11_tired_0 : List AT := [tx_al 0, tx_ic 0, tx_pi 11 0, tx_al 0, tx_al 0, tx_il 1, tx_callv 11 (nf G_X11_isMotion) 1, tx_ifz r_ne 18, tx_ic 1, tx_fall 19]
def b_X11_tired_18 : List AT := [tx_ic 0, tx_fall 19]
def b_X11_tired_19 : List AT := [tx_ic 1, tx_ic 0, tx_callv 11 (nf G_X11_bad) 3, tx_ifz r_eq 29, tx_ic 0, tx_ri]
def b_X11_tired_29 : List AT := [tx_al 0, tx_il 1, tx_ic 0, tx_callv 11 (nf G_X11_passesLater) 2, tx_is 2, tx_ic 1, tx_is 3, tx_fall 38]
def b_X11_tired_38 : List AT := [tx_il 3, tx_ic 60, tx_cmp r_gt 62, tx_al 0, tx_il 1, tx_il 3, tx_callv 11 (nf G_X11_passesLater) 2, tx_il 2, tx_cmp r_eq 56, tx_il 3, tx_ri]
def b_X11_tired_56 : List AT := [tx_inc 3 1, tx_fall 38]
def b_X11_tired_62 : List AT := [tx_ic (-1), tx_ri]
def R_X11_tired (J : JT) (Q : QT) : Prop := (∀ ls st M, wpl J Q b_X11_tired_0 ls st M → J 0 ls st M) ∧ (∀ ls st M, wpl J Q b_X11_tired_18 ls st M → J 18 ls st M) ∧ (∀ ls st M, wpl J Q b_X11_tired_19 ls st M → J 19 ls st M) ∧ (∀ ls st M, wpl J Q b_X11_tired_29 ls st M → J 29 ls st M) ∧ (∀ ls st M, wpl J Q b_X11_tired_38 ls st M → J 38 ls st M) ∧ (∀ ls st M, wpl J Q b_X11_tired_56 ls st M → J 56 ls st M) ∧ (∀ ls st M, wpl J Q b_X11_tired_62 ls st M → J 62 ls st M)
theorem R_X11_tired_0 {J : JT} {Q : QT} (R : R_X11_tired J Q) {ls : Ls} {st : St} {M : Mem} (h : wpl J Q b_X11_tired_0 ls st M) : J 0 ls st M := R.1 ls st M h
theorem R_X11_tired_18 {J : JT} {Q : QT} (R : R_X11_tired J Q) {ls : Ls} {st : St} {M : Mem} (h : wpl J Q b_X11_tired_18 ls st M) : J 18 ls st M := R.2.1 ls st M h
theorem R_X11_tired_19 {J : JT} {Q : QT} (R : R_X11_tired J Q) {ls : Ls} {st : St} {M : Mem} (h : wpl J Q b_X11_tired_19 ls st M) : J 19 ls st M := R.2.2.1 ls st M h
theorem R_X11_tired_29 {J : JT} {Q : QT} (R : R_X11_tired J Q) {ls : Ls} {st : St} {M : Mem} (h : wpl J Q b_X11_tired_29 ls st M) : J 29 ls st M := R.2.2.2.1 ls st M h
theorem R_X11_tired_38 {J : JT} {Q : QT} (R : R_X11_tired J Q) {ls : Ls} {st : St} {M : Mem} (h : wpl J Q b_X11_tired_38 ls st M) : J 38 ls st M := R.2.2.2.2.1 ls st M h
theorem R_X11_tired_56 {J : JT} {Q : QT} (R : R_X11_tired J Q) {ls : Ls} {st : St} {M : Mem} (h : wpl J Q b_X11_tired_56 ls st M) : J 56 ls st M := R.2.2.2.2.2.1 ls st M h
theorem R_X11_tired_62 {J : JT} {Q : QT} (R : R_X11_tired J Q) {ls : Ls} {st : St} {M : Mem} (h : wpl J Q b_X11_tired_62 ls st M) : J 62 ls st M := R.2.2.2.2.2.2 ls st M h
theorem P_X11_speech {J : JT} {Q : QT} (R : R_X11_speech J Q) {as : List Vl} {M : Mem} (h : nf G_X11_speech as M Q) : (enL as).length ≤ 3 ∧ J 0 (padL 3 (enL as)) [] M := by
  unfold nf G_X11_speech at h
  split at h
  · rename_i k m l
    obtain ⟨rfl, s, hM, hQ⟩ := h
    have h1 := hM.t0 0
    have e0 : up M 159 0 0 159 0 = 0 := up_eq
    have mf : MF M (up M 159 0 0) := MF.t0 M 0
    have no1 : ¬ (0 ≤ m ∧ m < s.1 10 4) → an_speech m l s = nay s 1 := fun c => if_pos c
    have no2 : (0 ≤ m ∧ m < s.1 10 4) → ¬ (1 ≤ l ∧ l ≤ 60) → an_speech m l s = nay s 2 := fun c1 c2 => (if_neg (fun z => z c1)).trans (if_pos c2)
    have body : (0 ≤ m ∧ m < s.1 10 4) → (1 ≤ l ∧ l ≤ 60) → J 53 [some (vR 159), some (vI m), some (vI l)] [] (up M 159 0 0) := by
      intro c1 c2
      have ea : an_speech m l s = _ := (if_neg (fun z => z c1)).trans (if_neg (fun z => z c2))
      rw [ea] at hQ
      generalize up M 159 0 0 = M1 at h1 e0 mf
      have kp : ∀ M2 : Mem, (∀ u v, (u < 292 ∨ 330 < u) → ¬ (u = 159 ∧ (v = 36 ∨ v = 37)) → M2 u v = M1 u v) → (0 ≤ M2 159 37 ∧ M2 159 37 ≤ 1000) → Mdl M2 s ∧ MF M M2 ∧ M2 159 0 = 0 := fun M2 f2 b => ⟨h1.kept (fun u v hu => f2 u v (by unfold RC at hu; omega) (by unfold RC at hu; omega)) b, mf.tr (fun u v hu => f2 u v (by omega) (by omega)), (f2 _ _ (by omega) (by omega)).trans e0⟩
      have w35 := h1.2.2.2.2.2.2.1
      
      refine R_X11_speech_53 R (an o159 ⟨s.1, ⟨rfl, c1, ⟨by omega, by omega⟩, w35⟩, h1.1, h1.2.1, fun M2 f2 e2 => br (fun d => an (Or.inr rfl) ?_) (fun d => an (Or.inl rfl) ?_)⟩)
      · obtain ⟨k1, k2, k3⟩ := kp M2 f2 (by omega)
        exact hQ M2 1 k2 k1 k3 (fun _ => (if_pos d).symm)
      · obtain ⟨k1, k2, k3⟩ := kp M2 f2 (by omega)
        exact hQ M2 0 k2 k1 k3 (fun _ => (if_neg d).symm)
    have atB : (0 ≤ m ∧ m < s.1 10 4) → ∀ b : Int, (b = 0 ∧ (1 ≤ l ∧ l ≤ 60)) ∨ (b = 1 ∧ ¬ (1 ≤ l ∧ l ≤ 60)) → J 43 [some (vR 159), some (vI m), some (vI l)] [vI b, vR 159] (up M 159 0 0) := by
      intro c1 b hb
      rcases hb with ⟨rfl, c2⟩ | ⟨rfl, c2⟩
      · exact R_X11_speech_43 R (an o159 ⟨⟨rfl, by decide, by decide, e0⟩, fun z => absurd rfl z, fun _ => bt rfl (body c1 c2)⟩)
      · exact R_X11_speech_43 R (an o159 ⟨⟨rfl, by decide, by decide, e0⟩, fun _ => bf (by decide) (R_X11_speech_51 R (an (Or.inl rfl) (m_no (cd := cd2) (Q := fun r M' => Q (.inl r) M') hM 2 2 (by decide) rfl (no2 c1 c2) 0 hQ))), fun z => absurd z (by decide)⟩)
    have at1 : ∀ b : Int, (b = 0 ∧ (0 ≤ m ∧ m < s.1 10 4)) ∨ (b = 1 ∧ ¬ (0 ≤ m ∧ m < s.1 10 4)) → J 19 [some (vR 159), some (vI m), some (vI l)] [vI b, vR 159] (up M 159 0 0) := by
      intro b hb
      rcases hb with ⟨rfl, c1⟩ | ⟨rfl, c1⟩
      · exact R_X11_speech_19 R (an o159 ⟨⟨rfl, by decide, by decide, e0⟩, fun z => absurd rfl z, fun _ => bf (by decide) (br (fun d0 => bt (by decide) (R_X11_speech_42 R (atB c1 0 (Or.inl ⟨rfl, by omega⟩)))) (fun d0 => bf (by decide) (atB c1 1 (Or.inr ⟨rfl, by omega⟩))))⟩)
      · exact R_X11_speech_19 R (an o159 ⟨⟨rfl, by decide, by decide, e0⟩, fun _ => bt (by decide) (R_X11_speech_51 R (an (Or.inl rfl) (m_no (cd := cd2) (Q := fun r M' => Q (.inl r) M') hM 1 1 (by decide) rfl (no1 c1) 0 hQ))), fun z => absurd z (by decide)⟩)
    exact ⟨Nat.le_of_ble_eq_true rfl, R_X11_speech_0 R (an o159 (an o159 ⟨s.1, rfl, h1.1, br (fun d0 => bt (by decide) (R_X11_speech_18 R (at1 0 (Or.inl ⟨rfl, d0⟩)))) (fun d0 => bf (by decide) (at1 1 (Or.inr ⟨rfl, d0⟩)))⟩))⟩
  · exact h.elim
theorem P_X11_tired {J : JT} {Q : QT} (R : R_X11_tired J Q) {as : List Vl} {M : Mem} (h : nf G_X11_tired as M Q) : (enL as).length ≤ 4 ∧ J 0 (padL 4 (enL as)) [] M := by
  unfold nf G_X11_tired at h
  split at h
  · rename_i k m
    obtain ⟨rfl, s, hM, hQ⟩ := h
    have h1 := hM.t0 0
    have e0 : up M 159 0 0 159 0 = 0 := up_eq
    have mf : MF M (up M 159 0 0) := MF.t0 M 0
    have no1 : ¬ (0 ≤ m ∧ m < s.1 10 4) → an_tired m s = nay s 1 := fun c => if_pos c
    have body : (0 ≤ m ∧ m < s.1 10 4) → J 29 [some (vR 159), some (vI m), none, none] [] (up M 159 0 0) := by
      intro c1
      have ea : an_tired m s = _ := if_neg (fun z => z c1)
      rw [ea] at hQ
      generalize up M 159 0 0 = M1 at h1 e0 mf
      have kp : ∀ M2 : Mem, (∀ u v, (u < 292 ∨ 330 < u) → ¬ (u = 159 ∧ (v = 36 ∨ v = 37)) → M2 u v = M1 u v) → (0 ≤ M2 159 37 ∧ M2 159 37 ≤ 1000) → Mdl M2 s ∧ MF M M2 ∧ M2 159 0 = 0 := fun M2 f2 b => ⟨h1.kept (fun u v hu => f2 u v (by unfold RC at hu; omega) (by unfold RC at hu; omega)) b, mf.tr (fun u v hu => f2 u v (by omega) (by omega)), (f2 _ _ (by omega) (by omega)).trans e0⟩
      have w35 := h1.2.2.2.2.2.2.1
      
      have bool : ∀ (b c : Bool) (x y : Int), x = (if b = true then 1 else 0) → y = (if c = true then 1 else 0) → (x = y ↔ b = c) := by
        intro b c x y hx hy
        rw [hx, hy]
        cases b <;> cases c <;> simp
      generalize hT : tiF s.1 m.toNat 60 = T at hQ
      have key : ∀ (as' : Int), as' = (if spB s.1 m.toNat 0 = true then 1 else 0) → ∀ i : Nat, i ≤ 60 → ∀ (x : Int) (M2 : Mem), x = ((i + 1 : Nat) : Int) → (∀ u v, (u < 292 ∨ 330 < u) → ¬ (u = 159 ∧ (v = 36 ∨ v = 37)) → M2 u v = M1 u v) → (0 ≤ M2 159 37 ∧ M2 159 37 ≤ 1000) → T = tiF s.1 m.toNat (60 - i) → J 38 [some (vR 159), some (vI m), some (vI as'), some (vI x)] [] M2 := by
        intro as' has
        refine dn ?_ ?_
        · intro x M2 hx f2 b2 ht
          obtain ⟨k1, k2, k3⟩ := kp M2 f2 b2
          exact R_X11_tired_38 R (bt (show (60 : Int) < x by omega) (R_X11_tired_62 R (hQ M2 (-1) k2 k1 k3 (fun _ => ht.symm))))
        · intro i hi ih x M2 hx f2 b2 ht
          obtain ⟨k1, k2, k3⟩ := kp M2 f2 b2
          have et : 60 - i = (60 - (i + 1)) + 1 := by omega
          have el : 60 - (60 - (i + 1)) = i + 1 := by omega
          rw [et, tiF, el, ← hx] at ht
          have go : ∀ M3 : Mem, (∀ u v, (u < 292 ∨ 330 < u) → ¬ (u = 159 ∧ (v = 36 ∨ v = 37)) → M3 u v = M2 u v) → M3 159 37 = x → ∀ r : Int, r = (if spB s.1 m.toNat x = true then 1 else 0) → (r = as' → J 56 [some (vR 159), some (vI m), some (vI as'), some (vI x)] [] M3) ∧ (¬ r = as' → Q (.inl (some (vI x))) M3) := by
            intro M3 f3 e3 r hr
            have f4 : ∀ u v, (u < 292 ∨ 330 < u) → ¬ (u = 159 ∧ (v = 36 ∨ v = 37)) → M3 u v = M1 u v := fun u v a b => (f3 u v a b).trans (f2 u v a b)
            have bb := bool _ _ _ _ hr has
            refine ⟨fun g => R_X11_tired_56 R (ih _ M3 (wn hx (by omega)) f4 (by omega) ?_), fun g => ?_⟩
            · rw [if_pos (bb.mp g)] at ht
              exact ht
            · obtain ⟨k4, k5, k6⟩ := kp M3 f4 (by omega)
              rw [if_neg (fun z => g (bb.mpr z))] at ht
              exact hQ M3 x k5 k4 k6 (fun _ => ht.symm)
          refine R_X11_tired_38 R (bf (show ¬ (60 : Int) < x by omega) (an o159 ⟨s.1, ⟨rfl, c1, ⟨by omega, by omega⟩, k1.2.2.2.2.2.2.1⟩, k1.1, k1.2.1, fun M3 f3 e3 => br (fun d => ?_) (fun d => ?_)⟩))
          · exact go M3 f3 e3 1 (if_pos d).symm
          · exact go M3 f3 e3 0 (if_neg d).symm
      refine R_X11_tired_29 R (an o159 ⟨s.1, ⟨rfl, c1, ⟨by decide, by decide⟩, w35⟩, h1.1, h1.2.1, fun M2 f2 e2 => br (fun d => ?_) (fun d => ?_)⟩)
      · exact key 1 (if_pos d).symm 0 (by decide) _ M2 rfl f2 (by omega) hT.symm
      · exact key 0 (if_neg d).symm 0 (by decide) _ M2 rfl f2 (by omega) hT.symm
    have at1 : ∀ b : Int, (b = 0 ∧ (0 ≤ m ∧ m < s.1 10 4)) ∨ (b = 1 ∧ ¬ (0 ≤ m ∧ m < s.1 10 4)) → J 19 [some (vR 159), some (vI m), none, none] [vI b, vR 159] (up M 159 0 0) := by
      intro b hb
      rcases hb with ⟨rfl, c1⟩ | ⟨rfl, c1⟩
      · exact R_X11_tired_19 R (an o159 ⟨⟨rfl, by decide, by decide, e0⟩, fun z => absurd rfl z, fun _ => bt rfl (body c1)⟩)
      · exact R_X11_tired_19 R (an o159 ⟨⟨rfl, by decide, by decide, e0⟩, fun _ => bf (by decide) (m_no (cd := cd1) (Q := fun r M' => Q (.inl r) M') hM 1 1 (by decide) rfl (no1 c1) 0 hQ), fun z => absurd z (by decide)⟩)
    exact ⟨Nat.le_of_ble_eq_true rfl, R_X11_tired_0 R (an o159 (an o159 ⟨s.1, rfl, h1.1, br (fun d0 => bt (by decide) (R_X11_tired_18 R (at1 0 (Or.inl ⟨rfl, d0⟩)))) (fun d0 => bf (by decide) (at1 1 (Or.inr ⟨rfl, d0⟩)))⟩))⟩

  · exact h.elim