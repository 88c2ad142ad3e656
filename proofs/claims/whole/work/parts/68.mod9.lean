def G_X11_weighs : FN := fun as M Q => match as with
  | [.inr (.inl k)] => ∃ Ab wo σ, (k = 159 ∧ M 159 35 = wo) ∧ MdP M Ab ∧ RS M Ab wo σ ∧ SigOK Ab σ ∧ ∀ M' : Mem, (∀ u v, u ≠ 297 → M' u v = M u v) → (∀ p, p < nP Ab → M' 297 p = ldF Ab σ (p : Int)) → Q none M'
  | _ => False
def G_X11_drops : FN := fun as M Q => match as with
  | [.inr (.inl k), .inl p, .inl m] => ∃ Ab, (k = 159 ∧ 0 ≤ p ∧ p < 10) ∧ MdP M Ab ∧ ∀ M' : Mem, (∀ u v, u ≠ 292 → u ≠ 293 → ¬ (u = 296 ∧ v = p.toNat) → M' u v = M u v) → M' 296 p.toNat = m → (∀ t, t < nT Ab → (M 292 t = p → M' 292 t = -1 ∧ M' 293 t = -1) ∧ (¬ M 292 t = p → M' 292 t = M 292 t ∧ M' 293 t = M 293 t)) → Q none M'
  | _ => False
def G_X11_countsOf : FN := fun as M Q => match as with
  | [.inr (.inl k), .inl m] => ∃ Ab, ∃ f : Nat → Int, (k = 159 ∧ 0 ≤ m ∧ m < Ab 10 4) ∧ MdP M Ab ∧ (∀ p, p < nP Ab → M 297 p = f p ∧ 0 ≤ f p ∧ f p ≤ 1386) ∧ ∀ M' : Mem, (∀ u v, ¬ (300 + 4 * m.toNat ≤ u ∧ u < 303 + 4 * m.toNat) → M' u v = M u v) → (∀ l s, l < 3 → s < 2 → M' (300 + 4 * m.toNat + l) s = cntF Ab f (if s = 0 then Ab 8 m.toNat else Ab 9 m.toNat) (l : Int)) → Q none M'
  | _ => False
def b_X11_weighs_0 : List AT := [tx_ic 0, tx_is 1, tx_fall 2]
def b_X11_weighs_2 : List AT := [tx_il 1, tx_al 0, tx_gr 11 4, tx_ic 0, tx_ia, tx_cmp r_ge 25, tx_al 0, tx_gr 11 138, tx_il 1, tx_ic 0, tx_iax, tx_inc 1 1, tx_fall 2]
def b_X11_weighs_25 : List AT := [tx_ic 0, tx_is 1, tx_fall 27]
def b_X11_weighs_27 : List AT := tx_il 1 :: tx_al 0 :: tx_gr 11 4 :: tx_ic 1 :: tx_ia :: tx_cmp r_ge 82 :: tx_al 0 :: tx_gr 11 133 :: tx_il 1 :: tx_ia :: tx_ifz r_lt 76 :: tx_il 1 :: tx_al 0 :: tx_gi 11 35 :: tx_cmp r_eq 76 :: tx_al 0 :: tx_gr 11 138 :: tx_al 0 :: tx_gr 11 133 :: tx_il 1 :: tx_ia :: tx_dup2 :: tx_ia :: tx_al 0 :: tx_gr 11 42 :: tx_il 1 :: tx_aa 5 :: tx_ic 1 :: tx_ia :: tx_bin f_add :: tx_iax :: tx_fall 76 :: []
def b_X11_weighs_76 : List AT := [tx_inc 1 1, tx_fall 27]
def b_X11_weighs_82 : List AT := [tx_rv]
def R_X11_weighs (J : JT) (Q : QT) : Prop := (∀ ls st M, wpl J Q b_X11_weighs_0 ls st M → J 0 ls st M) ∧ (∀ ls st M, wpl J Q b_X11_weighs_2 ls st M → J 2 ls st M) ∧ (∀ ls st M, wpl J Q b_X11_weighs_25 ls st M → J 25 ls st M) ∧ (∀ ls st M, wpl J Q b_X11_weighs_27 ls st M → J 27 ls st M) ∧ (∀ ls st M, wpl J Q b_X11_weighs_76 ls st M → J 76 ls st M) ∧ (∀ ls st M, wpl J Q b_X11_weighs_82 ls st M → J 82 ls st M)
theorem R_X11_weighs_0 {J : JT} {Q : QT} (R : R_X11_weighs J Q) {ls : Ls} {st : St} {M : Mem} (h : wpl J Q b_X11_weighs_0 ls st M) : J 0 ls st M := R.1 ls st M h
theorem R_X11_weighs_2 {J : JT} {Q : QT} (R : R_X11_weighs J Q) {ls : Ls} {st : St} {M : Mem} (h : wpl J Q b_X11_weighs_2 ls st M) : J 2 ls st M := R.2.1 ls st M h
theorem R_X11_weighs_25 {J : JT} {Q : QT} (R : R_X11_weighs J Q) {ls : Ls} {st : St} {M : Mem} (h : wpl J Q b_X11_weighs_25 ls st M) : J 25 ls st M := R.2.2.1 ls st M h
theorem R_X11_weighs_27 {J : JT} {Q : QT} (R : R_X11_weighs J Q) {ls : Ls} {st : St} {M : Mem} (h : wpl J Q b_X11_weighs_27 ls st M) : J 27 ls st M := R.2.2.2.1 ls st M h
theorem R_X11_weighs_76 {J : JT} {Q : QT} (R : R_X11_weighs J Q) {ls : Ls} {st : St} {M : Mem} (h : wpl J Q b_X11_weighs_76 ls st M) : J 76 ls st M := R.2.2.2.2.1 ls st M h
theorem R_X11_weighs_82 {J : JT} {Q : QT} (R : R_X11_weighs J Q) {ls : Ls} {st : St} {M : Mem} (h : wpl J Q b_X11_weighs_82 ls st M) : J 82 ls st M := R.2.2.2.2.2 ls st M h
def b_X11_drops_0 : List AT := [tx_al 0, tx_gr 11 137, tx_il 1, tx_il 2, tx_iax, tx_ic 0, tx_is 3, tx_fall 9]
def b_X11_drops_9 : List AT := [tx_il 3, tx_al 0, tx_gr 11 4, tx_ic 1, tx_ia, tx_cmp r_ge 52, tx_al 0, tx_gr 11 133, tx_il 3, tx_ia, tx_il 1, tx_cmp r_eq 32, tx_fall 46]
def b_X11_drops_32 : List AT := [tx_al 0, tx_gr 11 133, tx_il 3, tx_ic (-1), tx_iax, tx_al 0, tx_gr 11 134, tx_il 3, tx_ic (-1), tx_iax, tx_fall 46]
def b_X11_drops_46 : List AT := [tx_inc 3 1, tx_fall 9]
def b_X11_drops_52 : List AT := [tx_rv]
def R_X11_drops (J : JT) (Q : QT) : Prop := (∀ ls st M, wpl J Q b_X11_drops_0 ls st M → J 0 ls st M) ∧ (∀ ls st M, wpl J Q b_X11_drops_9 ls st M → J 9 ls st M) ∧ (∀ ls st M, wpl J Q b_X11_drops_32 ls st M → J 32 ls st M) ∧ (∀ ls st M, wpl J Q b_X11_drops_46 ls st M → J 46 ls st M) ∧ (∀ ls st M, wpl J Q b_X11_drops_52 ls st M → J 52 ls st M)
theorem R_X11_drops_0 {J : JT} {Q : QT} (R : R_X11_drops J Q) {ls : Ls} {st : St} {M : Mem} (h : wpl J Q b_X11_drops_0 ls st M) : J 0 ls st M := R.1 ls st M h
theorem R_X11_drops_9 {J : JT} {Q : QT} (R : R_X11_drops J Q) {ls : Ls} {st : St} {M : Mem} (h : wpl J Q b_X11_drops_9 ls st M) : J 9 ls st M := R.2.1 ls st M h
theorem R_X11_drops_32 {J : JT} {Q : QT} (R : R_X11_drops J Q) {ls : Ls} {st : St} {M : Mem} (h : wpl J Q b_X11_drops_32 ls st M) : J 32 ls st M := R.2.2.1 ls st M h
theorem R_X11_drops_46 {J : JT} {Q : QT} (R : R_X11_drops J Q) {ls : Ls} {st : St} {M : Mem} (h : wpl J Q b_X11_drops_46 ls st M) : J 46 ls st M := R.2.2.2.1 ls st M h
theorem R_X11_drops_52 {J : JT} {Q : QT} (R : R_X11_drops J Q) {ls : Ls} {st : St} {M : Mem} (h : wpl J Q b_X11_drops_52 ls st M) : J 52 ls st M := R.2.2.2.2 ls st M h
def b_X11_countsOf_0 : List AT := [tx_ic 0, tx_is 2, tx_fall 2]
def b_X11_countsOf_2 : List AT := [tx_il 2, tx_ic 3, tx_cmp r_ge 118, tx_ic 0, tx_is 3, tx_fall 9]
def b_X11_countsOf_9 : List AT := [tx_il 3, tx_ic 2, tx_cmp r_ge 112, tx_ic 0, tx_is 4, tx_ic 0, tx_is 5, tx_fall 20]
def b_X11_countsOf_20 : List AT := tx_il 5 :: tx_al 0 :: tx_gr 11 4 :: tx_ic 0 :: tx_ia :: tx_cmp r_ge 94 :: tx_al 0 :: tx_gr 11 66 :: tx_il 1 :: tx_aa 5 :: tx_ic 1 :: tx_il 3 :: tx_bin f_add :: tx_ia :: tx_il 5 :: tx_bin shrI :: tx_ic 1 :: tx_bin andI :: tx_ic 1 :: tx_cmp r_ne 88 :: tx_il 4 :: tx_il 2 :: tx_ifz r_ne 66 :: tx_al 0 :: tx_gr 11 138 :: tx_il 5 :: tx_ia :: tx_fall 85 :: []
def b_X11_countsOf_66 : List AT := [tx_il 2, tx_ic 1, tx_cmp r_ne 84, tx_al 0, tx_gr 11 138, tx_il 5, tx_ia, tx_call (nf G_X11_root) 1, tx_fall 85]
def b_X11_countsOf_84 : List AT := [tx_ic 1, tx_fall 85]
def b_X11_countsOf_85 : List AT := [tx_bin f_add, tx_is 4, tx_fall 88]
def b_X11_countsOf_88 : List AT := [tx_inc 5 1, tx_fall 20]
def b_X11_countsOf_94 : List AT := [tx_al 0, tx_gr 11 139, tx_il 1, tx_aa 6, tx_il 2, tx_aa 5, tx_il 3, tx_il 4, tx_iax, tx_inc 3 1, tx_fall 9]
def b_X11_countsOf_112 : List AT := [tx_inc 2 1, tx_fall 2]
def b_X11_countsOf_118 : List AT := [tx_rv]
def R_X11_countsOf (J : JT) (Q : QT) : Prop := (∀ ls st M, wpl J Q b_X11_countsOf_0 ls st M → J 0 ls st M) ∧ (∀ ls st M, wpl J Q b_X11_countsOf_2 ls st M → J 2 ls st M) ∧ (∀ ls st M, wpl J Q b_X11_countsOf_9 ls st M → J 9 ls st M) ∧ (∀ ls st M, wpl J Q b_X11_countsOf_20 ls st M → J 20 ls st M) ∧ (∀ ls st M, wpl J Q b_X11_countsOf_66 ls st M → J 66 ls st M) ∧ (∀ ls st M, wpl J Q b_X11_countsOf_84 ls st M → J 84 ls st M) ∧ (∀ ls st M, wpl J Q b_X11_countsOf_85 ls st M → J 85 ls st M) ∧ (∀ ls st M, wpl J Q b_X11_countsOf_88 ls st M → J 88 ls st M) ∧ (∀ ls st M, wpl J Q b_X11_countsOf_94 ls st M → J 94 ls st M) ∧ (∀ ls st M, wpl J Q b_X11_countsOf_112 ls st M → J 112 ls st M) ∧ (∀ ls st M, wpl J Q b_X11_countsOf_118 ls st M → J 118 ls st M)
theorem R_X11_countsOf_0 {J : JT} {Q : QT} (R : R_X11_countsOf J Q) {ls : Ls} {st : St} {M : Mem} (h : wpl J Q b_X11_countsOf_0 ls st M) : J 0 ls st M := R.1 ls st M h
theorem R_X11_countsOf_2 {J : JT} {Q : QT} (R : R_X11_countsOf J Q) {ls : Ls} {st : St} {M : Mem} (h : wpl J Q b_X11_countsOf_2 ls st M) : J 2 ls st M := R.2.1 ls st M h
theorem R_X11_countsOf_9 {J : JT} {Q : QT} (R : R_X11_countsOf J Q) {ls : Ls} {st : St} {M : Mem} (h : wpl J Q b_X11_countsOf_9 ls st M) : J 9 ls st M := R.2.2.1 ls st M h
theorem R_X11_countsOf_20 {J : JT} {Q : QT} (R : R_X11_countsOf J Q) {ls : Ls} {st : St} {M : Mem} (h : wpl J Q b_X11_countsOf_20 ls st M) : J 20 ls st M := R.2.2.2.1 ls st M h
theorem R_X11_countsOf_66 {J : JT} {Q : QT} (R : R_X11_countsOf J Q) {ls : Ls} {st : St} {M : Mem} (h : wpl J Q b_X11_countsOf_66 ls st M) : J 66 ls st M := R.2.2.2.2.1 ls st M h
theorem R_X11_countsOf_84 {J : JT} {Q : QT} (R : R_X11_countsOf J Q) {ls : Ls} {st : St} {M : Mem} (h : wpl J Q b_X11_countsOf_84 ls st M) : J 84 ls st M := R.2.2.2.2.2.1 ls st M h
theorem R_X11_countsOf_85 {J : JT} {Q : QT} (R : R_X11_countsOf J Q) {ls : Ls} {st : St} {M : Mem} (h : wpl J Q b_X11_countsOf_85 ls st M) : J 85 ls st M := R.2.2.2.2.2.2.1 ls st M h
theorem R_X11_countsOf_88 {J : JT} {Q : QT} (R : R_X11_countsOf J Q) {ls : Ls} {st : St} {M : Mem} (h : wpl J Q b_X11_countsOf_88 ls st M) : J 88 ls st M := R.2.2.2.2.2.2.2.1 ls st M h
theorem R_X11_countsOf_94 {J : JT} {Q : QT} (R : R_X11_countsOf J Q) {ls : Ls} {st : St} {M : Mem} (h : wpl J Q b_X11_countsOf_94 ls st M) : J 94 ls st M := R.2.2.2.2.2.2.2.2.1 ls st M h
theorem R_X11_countsOf_112 {J : JT} {Q : QT} (R : R_X11_countsOf J Q) {ls : Ls} {st : St} {M : Mem} (h : wpl J Q b_X11_countsOf_112 ls st M) : J 112 ls st M := R.2.2.2.2.2.2.2.2.2.1 ls st M h
theorem R_X11_countsOf_118 {J : JT} {Q : QT} (R : R_X11_countsOf J Q) {ls : Ls} {st : St} {M : Mem} (h : wpl J Q b_X11_countsOf_118 ls st M) : J 118 ls st M := R.2.2.2.2.2.2.2.2.2.2 ls st M h
theorem P_X11_weighs {J : JT} {Q : QT} (R : R_X11_weighs J Q) {as : List Vl} {M : Mem} (h : nf G_X11_weighs as M Q) : (enL as).length ≤ 2 ∧ J 0 (padL 2 (enL as)) [] M := by
  unfold nf G_X11_weighs at h
  split at h
  · rename_i k
    obtain ⟨Ab, wo, σ, ⟨rfl, hwo⟩, hm, hs, hg, hQ⟩ := h
    have ho := hm.1
    obtain ⟨n1, n2⟩ := nT_le ho
    obtain ⟨p1, p2⟩ := nP_le ho
    have key2 : ∀ i, i ≤ nT Ab → ∀ (x : Int) (M' : Mem), x = (i : Int) → (∀ u v, u ≠ 297 → M' u v = M u v) → (∀ p, p < nP Ab → M' 297 p = sumN (fun t => if σ 0 t = (p : Int) then Ab 1 t else 0) i) → J 27 [some (vR 159), some (vI x)] [] M' := by
      refine dn ?_ ?_
      · intro x M' hx hf hp
        have hm' : MdP M' Ab := hm.kept (fun u v q1 q2 => hf u v (by omega))
        exact R_X11_weighs_27 R (an o159 (an (ak_of sh163 (by decide) (by decide)) (bt (show M' 163 1 ≤ x by rw [hm'.2.1.2.1]; omega) (R_X11_weighs_82 R (hQ M' hf hp)))))
      · intro i hi ih x M' hx hf hp
        have hxn : x.toNat = i := by omega
        have hm' : MdP M' Ab := hm.kept (fun u v q1 q2 => hf u v (by omega))
        obtain ⟨t0, t1, t2, t3⟩ := hm'.2.2.2.1 i hi
        have skip : σ 0 i < 0 → J 76 [some (vR 159), some (vI x)] [] M' := by
          intro hc
          refine R_X11_weighs_76 R (ih _ _ (wn hx (by omega)) hf (fun p hp' => ?_))
          rw [sumN, if_neg (by omega), hp p hp']
          omega
        have e292 : M' 292 i = M 292 i := hf _ _ (by omega)
        have e35 : M' 159 35 = wo := (hf _ _ (by omega)).trans hwo
        refine R_X11_weighs_27 R (an o159 (an (ak_of sh163 (by decide) (by decide)) (bf (show ¬ M' 163 1 ≤ x by rw [hm'.2.1.2.1]; omega) (an o159 (an (ak_of sh292 (by omega) (by omega)) ?_)))))
        show (M' 292 x.toNat < 0 → _) ∧ (¬ M' 292 x.toNat < 0 → _)
        rw [hxn, e292]
        obtain ⟨s1, s2⟩ := hs.1 i hi
        refine br (fun g => skip ?_) (fun g => an o159 (br (fun g2 => skip ?_) (fun g2 => ?_)))
        · by_cases e : (i : Int) = wo
          · rw [(s2 e).2]; decide
          · rw [← (s1 e).1]; exact g
        · have g2 : x = M' 159 35 := g2
          rw [e35] at g2
          rw [(s2 (by omega)).2]
          decide
        · have g2 : ¬ x = M' 159 35 := g2
          rw [e35] at g2
          obtain ⟨r1, r2⟩ := s1 (by omega)
          have hb : 0 ≤ σ 0 i ∧ σ 0 i < Ab 10 1 := by
            have := hg.1 i hi
            rw [r1] at g
            omega
          have e3 : M' (159 + 133) x.toNat = σ 0 i := by rw [hxn]; exact e292.trans r1
          refine an o159 (an o159 (an (ak_of sh292 (by omega) (by omega)) ?_))
          rw [e3]
          refine an (ak_of sh297 (by omega) (by omega)) (an o159 (an (ak_of sh201 (by omega) (by omega)) ?_))
          rw [th_row hxn]
          refine an (ak_of (sh_th i (by omega)) (by decide) (by decide)) (an (ak_of sh297 (by omega) (by omega)) (R_X11_weighs_76 R (ih _ _ (wn hx (by omega)) (fun u v hu => ?_) (fun p hp' => ?_))))
          · rw [up_ne (by omega)]; exact hf u v hu
          · have b0 := wt_bd ho (c := fun t => σ 0 t = (p : Int)) (n := i) (by omega)
            have oi := (ho.2.2.2.2.2.2.1 i hi).2.1
            by_cases e : p = (σ 0 i).toNat
            · rw [← e, up_eq, show M' (159 + 138) p = _ from hp p hp', show M' (202 + i) (Int.toNat 1) = Ab 1 i from t1, sumN, if_pos (show σ 0 i = (p : Int) by omega)]
              exact w1 (by omega) (by omega) rfl
            · rw [up_ne (by omega), hp p hp', sumN, if_neg (show ¬ σ 0 i = (p : Int) by omega)]
              omega
    have key1 : ∀ i, i ≤ nP Ab → ∀ (x : Int) (M' : Mem), x = (i : Int) → (∀ u v, u ≠ 297 → M' u v = M u v) → (∀ p, p < i → M' 297 p = 0) → J 2 [some (vR 159), some (vI x)] [] M' := by
      refine dn ?_ ?_
      · intro x M' hx hf hp
        have hm' : MdP M' Ab := hm.kept (fun u v q1 q2 => hf u v (by omega))
        exact R_X11_weighs_2 R (an o159 (an (ak_of sh163 (by decide) (by decide)) (bt (show M' 163 0 ≤ x by rw [hm'.2.1.1]; omega) (R_X11_weighs_25 R (key2 0 (Nat.zero_le _) _ _ rfl hf hp)))))
      · intro i hi ih x M' hx hf hp
        have hxn : x.toNat = i := by omega
        have hm' : MdP M' Ab := hm.kept (fun u v q1 q2 => hf u v (by omega))
        refine R_X11_weighs_2 R (an o159 (an (ak_of sh163 (by decide) (by decide)) (bf (show ¬ M' 163 0 ≤ x by rw [hm'.2.1.1]; omega) (an o159 (an (ak_of sh297 (by omega) (by omega)) (ih _ _ (wn hx (by omega)) (fun u v hu => ?_) (fun p hp' => ?_)))))))
        · rw [up_ne (by omega)]; exact hf u v hu
        · rw [hxn]
          by_cases e : p = i
          · subst e; rw [up_eq]
          · rw [up_ne (by omega)]; exact hp p (by omega)
    exact ⟨Nat.le_of_ble_eq_true rfl, R_X11_weighs_0 R (key1 0 (Nat.zero_le _) _ _ rfl (fun _ _ _ => rfl) (fun p hp => absurd hp (Nat.not_lt_zero p)))⟩
  · exact h.elim
theorem P_X11_drops {J : JT} {Q : QT} (R : R_X11_drops J Q) {as : List Vl} {M : Mem} (h : nf G_X11_drops as M Q) : (enL as).length ≤ 4 ∧ J 0 (padL 4 (enL as)) [] M := by
  unfold nf G_X11_drops at h
  split at h
  · rename_i k p m
    obtain ⟨Ab, ⟨rfl, p0, p9⟩, hm, hQ⟩ := h
    have ho := hm.1
    obtain ⟨n1, n2⟩ := nT_le ho
    have key : ∀ i, i ≤ nT Ab → ∀ (x : Int) (M' : Mem), x = (i : Int) → (∀ u v, u ≠ 292 → u ≠ 293 → ¬ (u = 296 ∧ v = p.toNat) → M' u v = M u v) → M' 296 p.toNat = m → (∀ t, t < nT Ab → ((t < i ∧ M 292 t = p) → M' 292 t = -1 ∧ M' 293 t = -1) ∧ (¬ (t < i ∧ M 292 t = p) → M' 292 t = M 292 t ∧ M' 293 t = M 293 t)) → J 9 [some (vR 159), some (vI p), some (vI m), some (vI x)] [] M' := by
      refine dn ?_ ?_
      · intro x M' hx hf h6 ht
        have hm' : MdP M' Ab := hm.kept (fun u v q1 q2 => hf u v (by omega) (by omega) (by omega))
        exact R_X11_drops_9 R (an o159 (an (ak_of sh163 (by decide) (by decide)) (bt (show M' 163 1 ≤ x by rw [hm'.2.1.2.1]; omega) (R_X11_drops_52 R (hQ M' hf h6 (fun t htt => ⟨fun q => (ht t htt).1 ⟨htt, q⟩, fun q => (ht t htt).2 (fun z => q z.2)⟩))))))
      · intro i hi ih x M' hx hf h6 ht
        have hxn : x.toNat = i := by omega
        have hm' : MdP M' Ab := hm.kept (fun u v q1 q2 => hf u v (by omega) (by omega) (by omega))
        have ei : M' (159 + 133) x.toNat = M 292 i := by rw [hxn]; exact ((ht i hi).2 (by omega)).1
        refine R_X11_drops_9 R (an o159 (an (ak_of sh163 (by decide) (by decide)) (bf (show ¬ M' 163 1 ≤ x by rw [hm'.2.1.2.1]; omega) (an o159 (an (ak_of sh292 (by omega) (by omega)) ?_)))))
        rw [ei]
        refine br (fun g => R_X11_drops_32 R (an o159 (an (ak_of sh292 (by omega) (by omega)) (an o159 (an (ak_of sh293 (by omega) (by omega)) (R_X11_drops_46 R (ih _ _ (wn hx (by omega)) (fun u v h1 h2 h3 => ?_) ?_ (fun t htt => ?_)))))))) (fun g => R_X11_drops_46 R (ih _ _ (wn hx (by omega)) hf h6 (fun t htt => ⟨fun q => (ht t htt).1 ⟨?_, q.2⟩, fun q => (ht t htt).2 (fun z => q ⟨by omega, z.2⟩)⟩)))
        · rw [up_ne (by omega), up_ne (by omega)]; exact hf u v h1 h2 h3
        · rw [up_ne (by omega), up_ne (by omega)]; exact h6
        · have g : M 292 i = p := g
          rw [hxn]
          by_cases e : t = i
          · subst e
            rw [up_ne (by omega), up_eq, up_eq]
            exact ⟨fun _ => ⟨rfl, rfl⟩, fun q => absurd ⟨by omega, g⟩ q⟩
          · rw [up_ne (by omega), up_ne (by omega), up_ne (by omega), up_ne (by omega)]
            exact ⟨fun q => (ht t htt).1 ⟨by omega, q.2⟩, fun q => (ht t htt).2 (fun z => q ⟨by omega, z.2⟩)⟩
        · have g : ¬ M 292 i = p := g
          by_cases e : t = i
          · subst e; exact absurd q.2 g
          · omega
    refine ⟨Nat.le_of_ble_eq_true rfl, R_X11_drops_0 R (an o159 (an (ak_of sh296 p0 (by omega)) (key 0 (Nat.zero_le _) _ _ rfl (fun u v h1 h2 h3 => up_ne (by omega)) up_eq (fun t htt => ⟨fun q => absurd q.1 (Nat.not_lt_zero t), fun q => ⟨up_ne (by omega), up_ne (by omega)⟩⟩))))⟩
  · exact h.elim
theorem sh298 : SH 298 = (6, 8, 299, 4) := rfl
theorem sh225 : SH 225 = (5, 8, 226, 1) := rfl
theorem sh_ct : ∀ k, k < 8 → SH (299 + 4 * k) = (5, 3, 300 + 4 * k, 1) := by decide
theorem sh_cr : ∀ k, k < 8 → ∀ l, l < 3 → SH (300 + 4 * k + l) = (1, 2, 0, 0) := by decide
theorem sh_mo : ∀ i, i < 8 → SH (226 + i) = (1, 3, 0, 0) := by decide
theorem mo_row {x : Int} {i : Nat} (h : x.toNat = i) : (SH (159 + 66)).2.2.1 + (SH (159 + 66)).2.2.2 * x.toNat = 226 + i := by
  rw [h]
  show 226 + 1 * i = 226 + i
  omega
theorem ct_row {x : Int} {i : Nat} (h : x.toNat = i) : (SH (159 + 139)).2.2.1 + (SH (159 + 139)).2.2.2 * x.toNat = 299 + 4 * i := by
  rw [h]
  show 299 + 4 * i = 299 + 4 * i
  rfl
theorem cr_row {x : Int} {k l : Nat} (hk : k < 8) (h : x.toNat = l) : (SH (299 + 4 * k)).2.2.1 + (SH (299 + 4 * k)).2.2.2 * x.toNat = 300 + 4 * k + l := by
  rw [h, sh_ct k hk]
  show 300 + 4 * k + 1 * l = _
  omega
theorem P_X11_countsOf {J : JT} {Q : QT} (R : R_X11_countsOf J Q) {as : List Vl} {M : Mem} (h : nf G_X11_countsOf as M Q) : (enL as).length ≤ 6 ∧ J 0 (padL 6 (enL as)) [] M := by
  unfold nf G_X11_countsOf at h
  split at h
  · rename_i k m
    obtain ⟨Ab, f, ⟨rfl, m0, m1⟩, hm, hf0, hQ⟩ := h
    have ho := hm.1
    obtain ⟨p1, p2⟩ := nP_le ho
    obtain ⟨q1, q2⟩ := nM_le ho
    obtain ⟨j, hj⟩ : ∃ j : Nat, m = (j : Int) := ⟨m.toNat, by omega⟩
    have hjn : m.toNat = j := by omega
    rw [hjn] at hQ
    have hjm : j < nM Ab := by omega
    obtain ⟨b8, b9⟩ := mo_bits ho hjm
    generalize hbt : (fun s : Nat => if s = 0 then Ab 8 j else Ab 9 j) = bt' at hQ
    have bts : ∀ s : Nat, (if s = 0 then Ab 8 j else Ab 9 j) = bt' s := fun s => by rw [← hbt]
    have btb : ∀ s : Nat, 0 ≤ bt' s ∧ bt' s < 2147483648 := fun s => by rw [← bts]; split <;> assumption
    have key1 : ∀ l : Nat, l ≤ 3 → ∀ (x : Int) (M' : Mem) (z3 z4 z5 : Option Vl), x = (l : Int) → (∀ u v, ¬ (300 + 4 * j ≤ u ∧ u < 303 + 4 * j) → M' u v = M u v) → (∀ l' s : Nat, l' < l → s < 2 → M' (300 + 4 * j + l') s = cntF Ab f (bt' s) (l' : Int)) → J 2 [some (vR 159), some (vI m), some (vI x), z3, z4, z5] [] M' := by
      refine dn ?_ ?_
      · intro x M' z3 z4 z5 hx hf hc
        refine R_X11_countsOf_2 R (bt (show (3 : Int) ≤ x by omega) (R_X11_countsOf_118 R (hQ M' hf (fun l s hl hs => ?_))))
        rw [bts]
        exact hc l s hl hs
      · intro l hl ih x M' z3 z4 z5 hx hf hc
        have hxn : x.toNat = l := by omega
        have key2 : ∀ s : Nat, s ≤ 2 → ∀ (y : Int) (M2 : Mem) (z4 z5 : Option Vl), y = (s : Int) → (∀ u v, ¬ (300 + 4 * j ≤ u ∧ u < 303 + 4 * j) → M2 u v = M u v) → (∀ l' s' : Nat, l' < l → s' < 2 → M2 (300 + 4 * j + l') s' = cntF Ab f (bt' s') (l' : Int)) → (∀ s', s' < s → M2 (300 + 4 * j + l) s' = cntF Ab f (bt' s') (l : Int)) → J 9 [some (vR 159), some (vI m), some (vI x), some (vI y), z4, z5] [] M2 := by
          refine dn ?_ ?_
          · intro y M2 z4 z5 hy hf2 hc2 hc3
            refine R_X11_countsOf_9 R (bt (show (2 : Int) ≤ y by omega) (R_X11_countsOf_112 R (ih _ _ _ _ _ (wn hx (by omega)) hf2 (fun l' s hl' hs => ?_))))
            by_cases e : l' = l
            · subst e; exact hc3 s hs
            · exact hc2 l' s (by omega) hs
          · intro s hs ihs y M2 z4 z5 hy hf2 hc2 hc3
            have hyn : y.toNat = s := by omega
            have m2 : MdP M2 Ab := hm.kept (fun u v q1 q2 => hf2 u v (by omega))
            obtain ⟨mm0, mm1, mm2⟩ := m2.2.2.2.2.2 j hjm
            have e1y : f_add 1 y = ((1 + s : Nat) : Int) := w1 (by omega) (by omega) (by omega)
            have emo : M2 (226 + j) (f_add 1 y).toNat = bt' s := by
              rw [e1y, Int.toNat_natCast, ← bts]
              by_cases e : s = 0
              · subst e; rw [if_pos rfl]; exact mm1
              · have : s = 1 := by omega
                subst this; rw [if_neg (by decide)]; exact mm2
            have ak1 : AK 1 (226 + j) (f_add 1 y) := by rw [e1y]; exact ak_of (sh_mo j (by omega)) (by omega) (by omega)
            clear e1y
            have pd : ∀ p, p < nP Ab → M2 297 p = f p := fun p hp => by rw [hf2 _ _ (by omega)]; exact (hf0 p hp).1
            have key3 : ∀ p, p ≤ nP Ab → ∀ (w acc : Int), w = (p : Int) → acc = sumN (fun p => if bitB (bt' s) (p : Int) = true then cv (l : Int) (f p) else 0) p → J 20 [some (vR 159), some (vI m), some (vI x), some (vI y), some (vI acc), some (vI w)] [] M2 := by
              refine dn ?_ ?_
              · intro w acc hw ha
                refine R_X11_countsOf_20 R (an o159 (an (ak_of sh163 (by decide) (by decide)) (bt (show M2 163 0 ≤ w by rw [m2.2.1.1]; omega) (R_X11_countsOf_94 R (an o159 (an (ak_of sh298 m0 (by omega)) ?_))))))
                rw [ct_row hjn]
                refine an (ak_of (sh_ct j (by omega)) (by omega) (by omega)) ?_
                rw [cr_row (by omega) hxn]
                refine an (ak_of (sh_cr j (by omega) l (by omega)) (by omega) (by omega)) (ihs _ _ _ _ (wn hy (by omega)) (fun u v hu => ?_) (fun l' s' hl' hs' => ?_) (fun s' hs' => ?_))
                · rw [up_ne (by omega)]; exact hf2 u v hu
                · rw [up_ne (by omega)]; exact hc2 l' s' hl' hs'
                · rw [hyn]
                  by_cases e : s' = s
                  · subst e; rw [up_eq]; exact ha
                  · rw [up_ne (by omega)]; exact hc3 s' (by omega)
              · intro p hp ihp w acc hw ha
                have hwn : w.toNat = p := by omega
                obtain ⟨f1, f2, f3⟩ := hf0 p hp
                have bd0 := cnt_bd ho (fun p hp => (hf0 p hp).2) (bt' s) (l : Int) (n := p) (by omega)
                have cb := cv_bd (law := (l : Int)) f2 f3
                rw [← ha] at bd0
                have eb := bit_yes (x := bt' s) (i := w) (btb s).1 (btb s).2 (by omega) (by omega)
                have ew : bitB (bt' s) w = bitB (bt' s) (p : Int) := by rw [hw]
                rw [ew] at eb
                have fin : bitB (bt' s) (p : Int) = true → ∀ v : Int, v = cv (l : Int) (f p) → J 85 [some (vR 159), some (vI m), some (vI x), some (vI y), some (vI acc), some (vI w)] [vI v, vI acc] M2 := by
                  intro hb v hv
                  refine R_X11_countsOf_85 R (R_X11_countsOf_88 R (ihp _ _ (wn hw (by omega)) ?_))
                  rw [sumN, if_pos hb, ← ha, ← hv]
                  exact w1 (by omega) (by omega) rfl
                refine R_X11_countsOf_20 R (an o159 (an (ak_of sh163 (by decide) (by decide)) (bf (show ¬ M2 163 0 ≤ w by rw [m2.2.1.1]; omega) (an o159 (an (ak_of sh225 m0 (by omega)) ?_)))))
                rw [mo_row hjn]
                refine an ak1 ?_
                rw [emo]
                refine br (fun g => R_X11_countsOf_88 R (ihp _ _ (wn hw (by omega)) ?_)) (fun g => ?_)
                · have g : ¬ bitB (bt' s) (p : Int) = true := fun z => g (eb.mpr z)
                  rw [sumN, if_neg g, ← ha]
                  omega
                · have hb : bitB (bt' s) (p : Int) = true := eb.mp (Classical.not_not.mp g)
                  have epd : M2 (159 + 138) w.toNat = f p := by rw [hwn]; exact pd p hp
                  refine br (fun g2 => R_X11_countsOf_66 R (br (fun g3 => R_X11_countsOf_84 R (fin hb _ ?_)) (fun g3 => an o159 (an (ak_of sh297 (by omega) (by omega)) ?_)))) (fun g2 => an o159 (an (ak_of sh297 (by omega) (by omega)) (fin hb _ ?_)))
                  · have g2 : ¬ x = 0 := g2
                    have g3 : ¬ x = 1 := g3
                    unfold cv
                    rw [if_pos (by omega)]
                  · have g2 : ¬ x = 0 := g2
                    have g3 : x = 1 := Classical.not_not.mp g3
                    rw [epd]
                    refine ⟨⟨f2, f3⟩, fin hb _ ?_⟩
                    unfold cv
                    rw [if_neg (by omega), if_neg (by omega)]
                  · have g2 : x = 0 := Classical.not_not.mp g2
                    unfold cv
                    rw [if_neg (by omega), if_pos (by omega)]
                    exact epd
            exact R_X11_countsOf_9 R (bf (show ¬ (2 : Int) ≤ y by omega) (key3 0 (Nat.zero_le _) _ _ rfl rfl))
        exact R_X11_countsOf_2 R (bf (show ¬ (3 : Int) ≤ x by omega) (key2 0 (by decide) _ _ _ _ rfl hf hc (fun s' hs' => absurd hs' (Nat.not_lt_zero s'))))
    exact ⟨Nat.le_of_ble_eq_true rfl, R_X11_countsOf_0 R (key1 0 (by decide) _ _ _ _ _ rfl (fun _ _ _ => rfl) (fun l' s hl' _ => absurd hl' (Nat.not_lt_zero l')))⟩

  · exact h.elim