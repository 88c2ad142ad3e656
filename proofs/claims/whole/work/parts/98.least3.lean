def G_X11_least : FN := fun as M Q => match as with
  | [.inr (.inl k), .inl m, .inl w] => k = 159 ∧ mS cd2 (an_least m w) M Q
  | _ => False
def b_X11_least_0 : List AT := [tx_al 0, tx_ic 0, tx_pi 11 0, tx_al 0, tx_al 0, tx_il 1, tx_callv 11 (nf G_X11_isMotion) 1, tx_ifz r_ne 18, tx_ic 1, tx_fall 19]
def b_X11_least_18 : List AT := [tx_ic 0, tx_fall 19]
def b_X11_least_19 : List AT := [tx_ic 1, tx_ic 0, tx_callv 11 (nf G_X11_bad) 3, tx_ifz r_ne 50, tx_al 0, tx_il 2, tx_ic 0, tx_ic 1, tx_call (nf G_X11_in) 3, tx_ifz r_ne 41, tx_ic 1, tx_fall 42]
def b_X11_least_41 : List AT := [tx_ic 0, tx_fall 42]
def b_X11_least_42 : List AT := [tx_ic 2, tx_ic 1, tx_callv 11 (nf G_X11_bad) 3, tx_ifz r_eq 52, tx_fall 50]
def b_X11_least_50 : List AT := [tx_ic 0, tx_ri]
def b_X11_least_52 : List AT := [tx_al 0, tx_il 1, tx_callv 11 (nf G_X11_findLeast) 1, tx_il 2, tx_ifz r_ne 68, tx_al 0, tx_gi 11 43, tx_fall 72]
def b_X11_least_68 : List AT := [tx_al 0, tx_gi 11 44, tx_fall 72]
def b_X11_least_72 : List AT := [tx_ri]
def R_X11_least (J : JT) (Q : QT) : Prop := (∀ ls st M, wpl J Q b_X11_least_0 ls st M → J 0 ls st M) ∧ (∀ ls st M, wpl J Q b_X11_least_18 ls st M → J 18 ls st M) ∧ (∀ ls st M, wpl J Q b_X11_least_19 ls st M → J 19 ls st M) ∧ (∀ ls st M, wpl J Q b_X11_least_41 ls st M → J 41 ls st M) ∧ (∀ ls st M, wpl J Q b_X11_least_42 ls st M → J 42 ls st M) ∧ (∀ ls st M, wpl J Q b_X11_least_50 ls st M → J 50 ls st M) ∧ (∀ ls st M, wpl J Q b_X11_least_52 ls st M → J 52 ls st M) ∧ (∀ ls st M, wpl J Q b_X11_least_68 ls st M → J 68 ls st M) ∧ (∀ ls st M, wpl J Q b_X11_least_72 ls st M → J 72 ls st M)
theorem R_X11_least_0 {J : JT} {Q : QT} (R : R_X11_least J Q) {ls : Ls} {st : St} {M : Mem} (h : wpl J Q b_X11_least_0 ls st M) : J 0 ls st M := R.1 ls st M h
theorem R_X11_least_18 {J : JT} {Q : QT} (R : R_X11_least J Q) {ls : Ls} {st : St} {M : Mem} (h : wpl J Q b_X11_least_18 ls st M) : J 18 ls st M := R.2.1 ls st M h
theorem R_X11_least_19 {J : JT} {Q : QT} (R : R_X11_least J Q) {ls : Ls} {st : St} {M : Mem} (h : wpl J Q b_X11_least_19 ls st M) : J 19 ls st M := R.2.2.1 ls st M h
theorem R_X11_least_41 {J : JT} {Q : QT} (R : R_X11_least J Q) {ls : Ls} {st : St} {M : Mem} (h : wpl J Q b_X11_least_41 ls st M) : J 41 ls st M := R.2.2.2.1 ls st M h
theorem R_X11_least_42 {J : JT} {Q : QT} (R : R_X11_least J Q) {ls : Ls} {st : St} {M : Mem} (h : wpl J Q b_X11_least_42 ls st M) : J 42 ls st M := R.2.2.2.2.1 ls st M h
theorem R_X11_least_50 {J : JT} {Q : QT} (R : R_X11_least J Q) {ls : Ls} {st : St} {M : Mem} (h : wpl J Q b_X11_least_50 ls st M) : J 50 ls st M := R.2.2.2.2.2.1 ls st M h
theorem R_X11_least_52 {J : JT} {Q : QT} (R : R_X11_least J Q) {ls : Ls} {st : St} {M : Mem} (h : wpl J Q b_X11_least_52 ls st M) : J 52 ls st M := R.2.2.2.2.2.2.1 ls st M h
theorem R_X11_least_68 {J : JT} {Q : QT} (R : R_X11_least J Q) {ls : Ls} {st : St} {M : Mem} (h : wpl J Q b_X11_least_68 ls st M) : J 68 ls st M := R.2.2.2.2.2.2.2.1 ls st M h
theorem R_X11_least_72 {J : JT} {Q : QT} (R : R_X11_least J Q) {ls : Ls} {st : St} {M : Mem} (h : wpl J Q b_X11_least_72 ls st M) : J 72 ls st M := R.2.2.2.2.2.2.2.2 ls st M h
theorem P_X11_least {J : JT} {Q : QT} (R : R_X11_least J Q) {as : List Vl} {M : Mem} (h : nf G_X11_least as M Q) : (enL as).length ≤ 3 ∧ J 0 (padL 3 (enL as)) [] M := by
  unfold nf G_X11_least at h
  split at h
  · rename_i k m w
    obtain ⟨rfl, s, hM, hQ⟩ := h
    have h1 := hM.t0 0
    have e0 : up M 159 0 0 159 0 = 0 := up_eq
    have mf : MF M (up M 159 0 0) := MF.t0 M 0
    have no1 : ¬ (0 ≤ m ∧ m < s.1 10 4) → an_least m w s = nay s 1 := fun c => if_pos c
    have no2 : (0 ≤ m ∧ m < s.1 10 4) → ¬ (w = 0 ∨ w = 1) → an_least m w s = nay s 2 := fun c1 c2 => (if_neg (fun z => z c1)).trans (if_pos c2)
    have body : (0 ≤ m ∧ m < s.1 10 4) → (w = 0 ∨ w = 1) → J 52 [some (vR 159), some (vI m), some (vI w)] [] (up M 159 0 0) := by
      intro c1 c2
      have ea : an_least m w s = _ := (if_neg (fun z => z c1)).trans (if_neg (fun z => z c2))
      rw [ea] at hQ
      generalize up M 159 0 0 = M1 at h1 e0 mf
      have b37 := h1.2.2.2.2.2.2.2
      have w35 := h1.2.2.2.2.2.2.1
      refine R_X11_least_52 R (an o159 ⟨s.1, ⟨rfl, c1, b37, w35⟩, h1.1, h1.2.1, fun M2 f2 e43 e44 => ?_⟩)
      have k1 : Mdl M2 s := h1.kept (fun u v hu => f2 u v (by unfold RC at hu; omega) (by unfold RC at hu; omega)) (by rw [f2 _ _ (by omega) (by omega)]; exact b37)
      have k2 : MF M M2 := mf.tr (fun u v hu => f2 u v (by omega) (by omega))
      have k3 : M2 159 0 = 0 := (f2 _ _ (by omega) (by omega)).trans e0
      have fin : ∀ v : Int, v = (if w = 0 then lpF s.1 m.toNat (cnM s.1 m.toNat 0 1) else lsF s.1 m.toNat (cnM s.1 m.toNat 0 1)) → J 72 [some (vR 159), some (vI m), some (vI w)] [vI v] M2 := fun v hv => R_X11_least_72 R (hQ M2 v k2 k1 k3 (fun _ => hv))
      refine br (fun g => R_X11_least_68 R (an o159 (fin _ ?_))) (fun g => an o159 (fin _ ?_))
      · have g : ¬ w = 0 := g
        rw [if_neg g]; exact e44
      · have g : w = 0 := Classical.not_not.mp g
        rw [if_pos g]; exact e43
    have atB : (0 ≤ m ∧ m < s.1 10 4) → ∀ b : Int, (b = 0 ∧ (w = 0 ∨ w = 1)) ∨ (b = 1 ∧ ¬ (w = 0 ∨ w = 1)) → J 42 [some (vR 159), some (vI m), some (vI w)] [vI b, vR 159] (up M 159 0 0) := by
      intro c1 b hb
      rcases hb with ⟨rfl, c2⟩ | ⟨rfl, c2⟩
      · exact R_X11_least_42 R (an o159 ⟨⟨rfl, by decide, by decide, e0⟩, fun z => absurd rfl z, fun _ => bt rfl (body c1 c2)⟩)
      · exact R_X11_least_42 R (an o159 ⟨⟨rfl, by decide, by decide, e0⟩, fun _ => bf (by decide) (R_X11_least_50 R (m_no (cd := cd2) (Q := fun r M' => Q (.inl r) M') hM 2 2 (by decide) rfl (no2 c1 c2) 0 hQ)), fun z => absurd z (by decide)⟩)
    have at1 : ∀ b : Int, (b = 0 ∧ (0 ≤ m ∧ m < s.1 10 4)) ∨ (b = 1 ∧ ¬ (0 ≤ m ∧ m < s.1 10 4)) → J 19 [some (vR 159), some (vI m), some (vI w)] [vI b, vR 159] (up M 159 0 0) := by
      intro b hb
      rcases hb with ⟨rfl, c1⟩ | ⟨rfl, c1⟩
      · exact R_X11_least_19 R (an o159 ⟨⟨rfl, by decide, by decide, e0⟩, fun z => absurd rfl z, fun _ => bf (by decide) (br (fun d0 => bt (by decide) (R_X11_least_41 R (atB c1 0 (Or.inl ⟨rfl, by omega⟩)))) (fun d0 => bf (by decide) (atB c1 1 (Or.inr ⟨rfl, by omega⟩))))⟩)
      · exact R_X11_least_19 R (an o159 ⟨⟨rfl, by decide, by decide, e0⟩, fun _ => bt (by decide) (R_X11_least_50 R (m_no (cd := cd2) (Q := fun r M' => Q (.inl r) M') hM 1 1 (by decide) rfl (no1 c1) 0 hQ)), fun z => absurd z (by decide)⟩)
    exact ⟨Nat.le_of_ble_eq_true rfl, R_X11_least_0 R (an o159 (an o159 ⟨s.1, rfl, h1.1, br (fun d0 => bt (by decide) (R_X11_least_18 R (at1 0 (Or.inl ⟨rfl, d0⟩)))) (fun d0 => bf (by decide) (at1 1 (Or.inr ⟨rfl, d0⟩)))⟩))⟩

  · exact h.elim