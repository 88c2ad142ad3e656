theorem P_X11_minuteGoes {J : JT} {Q : QT} (R : R_X11_minuteGoes J Q) {as : List Vl} {M : Mem} (h : nf G_X11_minuteGoes as M Q) : (enL as).length ≤ 5 ∧ J 0 (padL 5 (enL as)) [] M := by
  unfold nf G_X11_minuteGoes at h
  split at h
  · rename_i k m
    obtain ⟨Ab, wo, σ, ⟨rfl, m0, m1, hwo, l0, l1⟩, hmd, hl, hrt, hrs, hg, hou, hQ⟩ := h
    have ho := hmd.1
    have hlo := hl.1
    obtain ⟨n1, n2⟩ := nT_le ho
    obtain ⟨p1, p2⟩ := nP_le ho
    obtain ⟨q1, q2⟩ := nM_le ho
    obtain ⟨L1, L2⟩ := nL_le hlo
    generalize htm : tmF (M 159 36) (M 159 37) m = tm at hQ
    have lat : ∀ x : Int, 0 ≤ x → ((if M 159 36 ≤ x then x + M 159 37 else x) = m ↔ x = tm) := fun x hx => by rw [← htm]; exact later_iff l0 hx
    have gA := sA_ok (wo := wo) (m := m) ho hlo hg
    have gB := sB_ok (tm := tm) ho gA
    have gC := sC_ok (tm := tm) hlo gB (nL Ab) (Nat.le_refl _)
    have gD := sD_ok (m := m) ho gC m0 m1
    have kp : ∀ M' : Mem, (∀ u v, (u < 292 ∨ u = 294 ∨ 330 < u) → M' u v = M u v) → MdP M' Ab ∧ MdL M' Ab ∧ M' 159 35 = wo ∧ M' 159 36 = M 159 36 ∧ M' 159 37 = M 159 37 := fun M' hf => ⟨hmd.kept (fun u v a b => hf u v (by omega)), hl.kept (hf _ _ (by omega)) (fun u v a b => hf u v (by omega)), (hf _ _ (by omega)).trans hwo, hf _ _ (by omega), hf _ _ (by omega)⟩
    -- the motions
    have key5 : ∀ i, i ≤ nM Ab → ∀ (x : Int) (M' : Mem) (z3 z4 : Option Vl), x = (i : Int) → (∀ u v, (u < 292 ∨ u = 294 ∨ 330 < u) → M' u v = M u v) → RS M' Ab wo (stp Ab wo m tm σ) → (∀ p, p < nP Ab → M' 297 p = ldF Ab (stp Ab wo m tm σ) (p : Int)) → (∀ k l s : Nat, k < nM Ab → l < 3 → s < 2 → M' (300 + 4 * k + l) s = if k < i ∧ Ab 7 k = tm then cntF Ab (fun p => ldF Ab (stp Ab wo m tm σ) (p : Int)) (if s = 0 then Ab 8 k else Ab 9 k) (l : Int) else M (300 + 4 * k + l) s) → J 299 [some (vR 159), some (vI m), some (vI x), z3, z4] [] M' := by
      refine dn ?_ ?_
      · intro x M' z3 z4 hx hf h1 h2 h3
        obtain ⟨k1, k2, k3, k4, k5⟩ := kp M' hf
        refine R_X11_minuteGoes_299 R (an o159 (an (ak_of sh163 (by decide) (by decide)) (bt (show M' 163 3 ≤ x by rw [k1.2.1.2.2.2.1]; omega) (R_X11_minuteGoes_336 R (hQ M' hf h1 h2 (fun k l s hk hl' hs => ?_))))))
        rw [h3 k l s hk hl' hs]
        exact if_iff ⟨fun z => z.2, fun z => ⟨hk, z⟩⟩
      · intro i hi ih x M' z3 z4 hx hf h1 h2 h3
        have hxn : x.toNat = i := by omega
        obtain ⟨k1, k2, k3, k4, k5⟩ := kp M' hf
        obtain ⟨mm0, -, -⟩ := k1.2.2.2.2.2 i hi
        have ob := (ho.2.2.2.2.2.2.2.2 i hi).1
        refine R_X11_minuteGoes_299 R (an o159 (an (ak_of sh163 (by decide) (by decide)) (bf (show ¬ M' 163 3 ≤ x by rw [k1.2.1.2.2.2.1]; omega) (an o159 (an (ak_of sh225 (by omega) (by omega)) ?_)))))
        rw [mo_row hxn]
        refine an (ak_of (sh_mo i (by omega)) (by decide) (by decide)) (an o159 ?_)
        rw [show M' (226 + i) (Int.toNat 0) = Ab 7 i from mm0]
        refine ⟨⟨rfl, by omega, by omega, by rw [k5]; exact l0, by rw [k5]; exact l1⟩, ?_⟩
        rw [k4, k5]
        have li := lat (Ab 7 i) ob.1
        refine br (fun g => R_X11_minuteGoes_330 R (ih _ _ _ _ (wn hx (by omega)) hf h1 h2 (fun k l s hk hl' hs => ?_))) (fun g => an o159 ⟨Ab, fun p => ldF Ab (stp Ab wo m tm σ) (p : Int), ⟨rfl, by omega, by omega⟩, k1, fun p hp => ⟨h2 p hp, (ld_bd ho _ _).1, (ld_bd ho _ _).2⟩, fun M2 g1 g2 => R_X11_minuteGoes_330 R (ih _ _ _ _ (wn hx (by omega)) (fun u v hu => ?_) ?_ (fun p hp => ?_) (fun k l s hk hl' hs => ?_))⟩)
        · have g : ¬ Ab 7 i = tm := fun z => g (li.mpr z)
          rw [h3 k l s hk hl' hs]
          by_cases e : k = i
          · subst e; rw [if_neg (by omega), if_neg (fun z => g z.2)]
          · exact if_iff (by omega)
        · rw [hxn] at g1
          rw [g1 u v (by omega)]; exact hf u v hu
        · rw [hxn] at g1
          exact h1.kept (fun u v a b => g1 u v (by omega))
        · rw [hxn] at g1
          rw [g1 _ _ (by omega)]; exact h2 p hp
        · have g : Ab 7 i = tm := li.mp (Classical.not_not.mp g)
          rw [hxn] at g1 g2
          by_cases e : k = i
          · subst e
            rw [if_pos ⟨by omega, g⟩]
            exact g2 l s hl' hs
          · rw [g1 _ _ (by omega), h3 k l s hk hl' hs]
            exact if_iff (by omega)
    -- weighing anew
    have at293 : ∀ (x : Int) (M' : Mem) (z3 z4 : Option Vl), (∀ u v, (u < 292 ∨ u = 294 ∨ 297 < u) → M' u v = M u v) → RS M' Ab wo (stp Ab wo m tm σ) → J 293 [some (vR 159), some (vI m), some (vI x), z3, z4] [] M' := by
      intro x M' z3 z4 hf h1
      obtain ⟨k1, k2, k3, k4, k5⟩ := kp M' (fun u v hu => hf u v (by omega))
      refine R_X11_minuteGoes_293 R (an o159 ⟨Ab, wo, stp Ab wo m tm σ, ⟨rfl, k3⟩, k1, h1, gD, fun M2 g1 g2 => key5 0 (Nat.zero_le _) _ M2 _ _ rfl (fun u v hu => ?_) (h1.kept (fun u v a b => g1 u v (by omega))) g2 (fun k l s hk hl' hs => ?_)⟩)
      · rw [g1 _ _ (by omega)]; exact hf u v (by omega)
      · rw [if_neg (by omega), g1 _ _ (by omega)]; exact hf _ _ (by omega)
    -- the persons
    have key4 : ∀ ρ, ρ = sC Ab tm (sB' Ab tm (sA Ab wo m σ)) (nL Ab) → ∀ i, i ≤ nP Ab → ∀ (x : Int) (M' : Mem) (z3 z4 : Option Vl), x = (i : Int) → (∀ u v, (u < 292 ∨ u = 294 ∨ 297 < u) → M' u v = M u v) → RS M' Ab wo (mxP Ab m ρ i) → (∀ p, p < nP Ab → M' 297 p = ldF Ab ρ (p : Int)) → J 234 [some (vR 159), some (vI m), some (vI x), z3, z4] [] M' := by
      intro ρ hρ
      rw [← hρ] at gC
      refine dn ?_ ?_
      · intro x M' z3 z4 hx hf h1 h2
        obtain ⟨k1, k2, k3, k4, k5⟩ := kp M' (fun u v hu => hf u v (by omega))
        refine R_X11_minuteGoes_234 R (an o159 (an (ak_of sh163 (by decide) (by decide)) (bt (show M' 163 0 ≤ x by rw [k1.2.1.1]; omega) (at293 x M' _ _ hf ?_))))
        have := mxP_end gC h1 p2
        rw [hρ] at this
        exact this
      · intro i hi ih x M' z3 z4 hx hf h1 h2
        have hxn : x.toNat = i := by omega
        obtain ⟨k1, k2, k3, k4, k5⟩ := kp M' (fun u v hu => hf u v (by omega))
        have hp := h1.2 i hi
        have ep : ∀ c, 2 ≤ c → mxP Ab m ρ i c i = ρ c i := by
          intro c hc
          unfold mxP
          rw [if_neg (by omega), if_neg (by omega), if_neg (by omega)]
        rw [ep 2 (by omega), ep 3 (by omega)] at hp
        have sb := (gC.2.2 i hi).2.1
        have lb := ld_bd ho ρ (i : Int)
        refine R_X11_minuteGoes_234 R (an o159 (an (ak_of sh163 (by decide) (by decide)) (bf (show ¬ M' 163 0 ≤ x by rw [k1.2.1.1]; omega) (an o159 (an (ak_of sh296 (by omega) (by omega)) ?_)))))
        show (M' 296 x.toNat = -1 → _) ∧ (¬ M' 296 x.toNat = -1 → _)
        rw [hxn, hp.2]
        refine br (fun g => R_X11_minuteGoes_257 R (an o159 (an (ak_of sh295 (by omega) (by omega)) (an o159 (an (ak_of sh297 (by omega) (by omega)) (an (ak_of sh295 (by omega) (by omega)) (an o159 (an (ak_of sh295 (by omega) (by omega)) ?_)))))))) (fun g => R_X11_minuteGoes_287 R (ih _ _ _ _ (wn hx (by omega)) hf (mxP_skip h1 hi (fun z => g z.1) (fun _ _ _ => rfl) ?_) h2))
        · have ev : f_sub (M' (159 + 136) x.toNat) (M' (159 + 138) x.toNat) = ρ 2 i - ldF Ab ρ (i : Int) := by
            rw [hxn, show M' (159 + 136) i = ρ 2 i from hp.1, show M' (159 + 138) i = ldF Ab ρ (i : Int) from h2 i hi]
            exact w1 (by omega) (by omega) rfl
          rw [ev, hxn, show up M' (159 + 136) i (ρ 2 i - ldF Ab ρ (i : Int)) (159 + 136) i = ρ 2 i - ldF Ab ρ (i : Int) from up_eq]
          generalize hM1 : up M' (159 + 136) i (ρ 2 i - ldF Ab ρ (i : Int)) = M1
          have f1 : ∀ u v, ¬ (u = 295 ∧ v = i) → M1 u v = M' u v := fun u v hu => by rw [← hM1, up_ne (by omega)]
          have h5 : M1 295 i = ρ 2 i - ldF Ab ρ (i : Int) := by rw [← hM1]; exact up_eq
          refine br (fun g2 => R_X11_minuteGoes_287 R (ih _ _ _ _ (wn hx (by omega)) (fun u v hu => ?_) (mxP_skip h1 hi ?_ f1 h5) (fun p hp' => ?_))) (fun g2 => an o159 ⟨Ab, ⟨rfl, by omega, by omega⟩, k1.kept (fun u v a b => f1 u v (by omega)), fun M2 g3 g4 g5 => R_X11_minuteGoes_287 R (ih _ _ _ _ (wn hx (by omega)) (fun u v hu => ?_) ?_ (fun p hp' => ?_))⟩)
          · rw [f1 u v (by omega)]; exact hf u v hu
          · have g2 : 0 ≤ ρ 2 i - ldF Ab ρ (i : Int) := g2
            omega
          · rw [f1 _ _ (by omega)]; exact h2 p hp'
          · rw [g3 u v (by omega) (by omega) (by omega), f1 u v (by omega)]; exact hf u v hu
          · have g2 : ¬ 0 ≤ ρ 2 i - ldF Ab ρ (i : Int) := g2
            rw [hxn] at g3 g4
            refine mxP_drop h1 hi ⟨g, by omega⟩ f1 h5 g3 g4 (fun t ht => ?_)
            have := g5 t ht
            rw [hx] at this
            exact this
          · rw [g3 _ _ (by omega) (by omega) (by omega), f1 _ _ (by omega)]; exact h2 p hp'
        · rw [ld_spent gC g, hp.1]
          omega
    -- weighing
    have at228 : ∀ (x : Int) (M' : Mem) (z3 z4 : Option Vl), (∀ u v, (u < 292 ∨ u = 294 ∨ 297 < u) → M' u v = M u v) → RS M' Ab wo (sC Ab tm (sB' Ab tm (sA Ab wo m σ)) (nL Ab)) → J 228 [some (vR 159), some (vI m), some (vI x), z3, z4] [] M' := by
      intro x M' z3 z4 hf h1
      obtain ⟨k1, k2, k3, k4, k5⟩ := kp M' (fun u v hu => hf u v (by omega))
      refine R_X11_minuteGoes_228 R (an o159 ⟨Ab, wo, _, ⟨rfl, k3⟩, k1, h1, gC, fun M2 g1 g2 => key4 _ rfl 0 (Nat.zero_le _) _ M2 _ _ rfl (fun u v hu => ?_) ?_ g2⟩)
      · rw [g1 _ _ (by omega)]; exact hf u v hu
      · rw [mxP_0]; exact h1.kept (fun u v a b => g1 u v (by omega))
    -- the lendings
    have key3 : ∀ i, i ≤ nL Ab → ∀ (x : Int) (M' : Mem) (z3 z4 : Option Vl), x = (i : Int) → (∀ u v, (u < 292 ∨ u = 294 ∨ 297 < u) → M' u v = M u v) → RS M' Ab wo (sC Ab tm (sB' Ab tm (sA Ab wo m σ)) i) → J 125 [some (vR 159), some (vI m), some (vI x), z3, z4] [] M' := by
      generalize hρ : sB' Ab tm (sA Ab wo m σ) = ρ at at228
      refine dn ?_ ?_
      · intro x M' z3 z4 hx hf h1
        obtain ⟨k1, k2, k3, k4, k5⟩ := kp M' (fun u v hu => hf u v (by omega))
        exact R_X11_minuteGoes_125 R (an o159 (bt (show M' 159 22 ≤ x by rw [k2.2.1]; omega) (at228 x M' _ _ hf h1)))
      · intro i hi ih x M' z3 z4 hx hf h1
        have hxn : x.toNat = i := by omega
        obtain ⟨k1, k2, k3, k4, k5⟩ := kp M' (fun u v hu => hf u v (by omega))
        obtain ⟨e0, e1, e2, e3⟩ := k2.2.2 i hi
        obtain ⟨⟨o1, o1'⟩, ⟨o2, o2'⟩, o3, o4, o5⟩ := lok hlo (i := i) (by unfold nL at hi; omega)
        have ht : (Ab 11 i).toNat < nT Ab := by omega
        have hy : (Ab 12 i).toNat < nP Ab := by omega
        obtain ⟨s1, s2⟩ := h1.1 _ ht
        have sp := (h1.2 _ hy).2
        have oi := (ho.2.2.2.2.2.2.1 _ ht).1
        have skip : ¬ (Ab 13 i = tm ∧ sC Ab tm ρ i 0 (Ab 11 i).toNat = Ab 0 (Ab 11 i).toNat ∧ sC Ab tm ρ i 3 (Ab 12 i).toNat = -1) → ∀ z3 z4 : Option Vl, J 222 [some (vR 159), some (vI m), some (vI x), z3, z4] [] M' := by
          intro hc z3 z4
          refine R_X11_minuteGoes_222 R (ih _ _ _ _ (wn hx (by omega)) hf ?_)
          rw [sC, if_neg hc]
          exact h1
        refine R_X11_minuteGoes_125 R (an o159 (bf (show ¬ M' 159 22 ≤ x by rw [k2.2.1]; omega) (an o159 (an (ak_of sh255 (by omega) (by omega)) ?_))))
        rw [le_row hxn]
        refine an (ak_of (sh_le i (by omega)) (by decide) (by decide)) (an o159 (an (ak_of sh255 (by omega) (by omega)) ?_))
        rw [le_row hxn, show M' (256 + i) (Int.toNat 0) = Ab 11 i from e0]
        refine an (ak_of (sh_le i (by omega)) (by decide) (by decide)) (an o159 (an (ak_of sh255 (by omega) (by omega)) ?_))
        rw [le_row hxn, show M' (256 + i) (Int.toNat 1) = Ab 12 i from e1]
        refine an (ak_of (sh_le i (by omega)) (by decide) (by decide)) (an o159 ?_)
        rw [show M' (256 + i) (Int.toNat 2) = Ab 13 i from e2]
        refine ⟨⟨rfl, by omega, by omega, by rw [k5]; exact l0, by rw [k5]; exact l1⟩, ?_⟩
        rw [k4, k5]
        have li := lat (Ab 13 i) o4.1
        refine br (fun g => skip (fun z => g (li.mpr z.1)) _ _) (fun g => an o159 (br (fun g2 => skip (fun z => ?_) _ _) (fun g2 => an o159 (an (ak_of sh292 (by omega) (by omega)) (an o159 (an (ak_of sh201 (by omega) (by omega)) ?_))))))
        · have g2 : Ab 11 i = M' 159 35 := g2
          rw [k3] at g2
          have := (s2 (by omega)).2
          omega
        · have g2 : ¬ Ab 11 i = M' 159 35 := g2
          rw [k3] at g2
          obtain ⟨r0, r1⟩ := s1 (by omega)
          rw [th_row rfl]
          refine an (ak_of (sh_th _ (by omega)) (by decide) (by decide)) ?_
          rw [show M' (159 + 133) (Ab 11 i).toNat = _ from r0, show M' (202 + (Ab 11 i).toNat) (Int.toNat 0) = Ab 0 (Ab 11 i).toNat from (k1.2.2.2.1 _ ht).1]
          refine br (fun g3 => skip (fun z => g3 z.2.1) _ _) (fun g3 => an o159 (an (ak_of sh296 (by omega) (by omega)) ?_))
          rw [show M' (159 + 137) (Ab 12 i).toNat = _ from sp]
          refine br (fun g4 => R_X11_minuteGoes_207 R (an o159 (an (ak_of sh292 (by omega) (by omega)) (an o159 (an (ak_of sh293 (by omega) (by omega)) (R_X11_minuteGoes_222 R (ih _ _ _ _ (wn hx (by omega)) (fun u v hu => ?_) ?_))))))) (fun g4 => skip (fun z => g4 z.2.2) _ _)
          · rw [up_ne (by omega), up_ne (by omega)]; exact hf u v hu
          · rw [sC, if_pos ⟨li.mp (Classical.not_not.mp g), Classical.not_not.mp g3, g4⟩, hx]
            generalize sC Ab tm ρ i = τ at h1
            refine ⟨fun t ht' => ?_, fun p hp => ?_⟩
            · by_cases e : t = (Ab 11 i).toNat
              · subst e
                rw [up_ne (by omega), up_eq, up_eq, up_ne (by omega), up_eq, up_eq]
                exact ⟨fun _ => ⟨rfl, rfl⟩, fun q => by omega⟩
              · rw [up_ne (by omega), up_ne (by omega), up_ne (by omega), up_ne (by omega), up_ne (by omega), up_ne (by omega), up_ne (by omega)]
                exact h1.1 t ht'
            · rw [up_ne (by omega), up_ne (by omega), up_ne (by omega), up_ne (by omega), up_ne (by omega), up_ne (by omega), up_ne (by omega), up_ne (by omega)]
              exact h1.2 p hp
    -- what goes back
    have key2 : ∀ i, i ≤ nT Ab → ∀ (x : Int) (M' : Mem) (z3 z4 : Option Vl), x = (i : Int) → (∀ u v, (u < 292 ∨ u = 294 ∨ 297 < u) → M' u v = M u v) → RS M' Ab wo (mxT (sA Ab wo m σ) (sB' Ab tm (sA Ab wo m σ)) i) → J 63 [some (vR 159), some (vI m), some (vI x), z3, z4] [] M' := by
      have w2 : ∀ t : Nat, t < nT Ab → (t : Int) = wo → σ 0 t = -2 := fun t ht q => ((hrs.1 t ht).2 q).2
      refine dn ?_ ?_
      · intro x M' z3 z4 hx hf h1
        obtain ⟨k1, k2, k3, k4, k5⟩ := kp M' (fun u v hu => hf u v (by omega))
        exact R_X11_minuteGoes_63 R (an o159 (an (ak_of sh163 (by decide) (by decide)) (bt (show M' 163 1 ≤ x by rw [k1.2.1.2.1]; omega) (R_X11_minuteGoes_123 R (key3 0 (Nat.zero_le _) _ M' _ _ rfl hf (RS_end h1 (fun p hp => ⟨rfl, rfl⟩)))))))
      · intro i hi ih x M' z3 z4 hx hf h1
        have hxn : x.toNat = i := by omega
        obtain ⟨k1, k2, k3, k4, k5⟩ := kp M' (fun u v hu => hf u v (by omega))
        obtain ⟨s1, s2⟩ := h1.1 i hi
        have sp := fun p hp => (h1.2 p hp).2
        generalize hρ : sA Ab wo m σ = ρ at h1 s1 s2 sp gA ih
        have b0 : mxT ρ (sB' Ab tm ρ) i 0 i = ρ 0 i ∧ mxT ρ (sB' Ab tm ρ) i 1 i = ρ 1 i := by unfold mxT; rw [if_neg (by omega), if_neg (by omega)]; exact ⟨rfl, rfl⟩
        rw [b0.1, b0.2] at s1
        rw [b0.1] at s2
        have sp3 : ∀ p, p < nP Ab → M' 296 p = ρ 3 p := fun p hp => by
          rw [sp p hp]
          unfold mxT
          rw [if_neg (by omega)]
        have hb := gA.2.1 i hi
        have tB : ¬ (0 ≤ ρ 1 i ∧ Ab 14 (ρ 1 i).toNat = tm) → sB' Ab tm ρ 0 i = ρ 0 i ∧ sB' Ab tm ρ 1 i = ρ 1 i := by
          intro hc
          show (if 0 ≤ ρ 1 i ∧ Ab 14 (ρ 1 i).toNat = tm then hm Ab ρ i else ρ 0 i) = ρ 0 i ∧ (if 0 ≤ ρ 1 i ∧ Ab 14 (ρ 1 i).toNat = tm then -1 else ρ 1 i) = ρ 1 i
          rw [if_neg hc, if_neg hc]
          exact ⟨rfl, rfl⟩
        have b293 : M' 293 i = ρ 1 i ∨ ((i : Int) = wo ∧ M' 293 i = -1 ∧ ρ 0 i = -2 ∧ ρ 1 i = -1) := by
          by_cases e : (i : Int) = wo
          · refine Or.inr ⟨e, (s2 e).1, (s2 e).2, ?_⟩
            rcases hb with b | ⟨j, hj, b1, b2, b3⟩
            · exact b
            · have lo := lok hlo (i := j) (by unfold nL at hj; omega)
              have := (s2 e).2
              omega
          · exact Or.inl (s1 e).2
        have skip : ¬ (0 ≤ ρ 1 i ∧ Ab 14 (ρ 1 i).toNat = tm) → J 117 [some (vR 159), some (vI m), some (vI x), z3, z4] [] M' := by
          intro hc
          refine R_X11_minuteGoes_117 R (ih _ _ _ _ (wn hx (by omega)) hf (RS_skip h1 (fun _ => tB hc) (fun q => ?_)))
          rw [(tB hc).1]
          exact (s2 q).2
        refine R_X11_minuteGoes_63 R (an o159 (an (ak_of sh163 (by decide) (by decide)) (bf (show ¬ M' 163 1 ≤ x by rw [k1.2.1.2.1]; omega) (an o159 (an (ak_of sh293 (by omega) (by omega)) ?_)))))
        show (M' 293 x.toNat = -1 → _) ∧ (¬ M' 293 x.toNat = -1 → _)
        rw [hxn]
        refine br (fun g => skip ?_) (fun g => ?_)
        · rcases b293 with b | b <;> omega
        · have e1 : M' 293 i = ρ 1 i := by rcases b293 with b | b
                                           · exact b
                                           · omega
          have hw : (i : Int) ≠ wo := fun q => g (s2 q).1
          rw [e1] at g
          rcases hb with b | ⟨j, hj, b1, b2, b3⟩
          · exact absurd b g
          · have lo := lok hlo (i := j) (by unfold nL at hj; omega)
            have ej : (ρ 1 i).toNat = j := by omega
            have er : M' (159 + 134) x.toNat = (j : Int) := by rw [hxn]; exact e1.trans b1
            refine an o159 (an o159 (an (ak_of sh293 (by omega) (by omega)) ?_))
            rw [er]
            refine an (ak_of sh255 (by omega) (by omega)) ?_
            rw [le_row (Int.toNat_natCast j)]
            refine an (ak_of (sh_le j (by omega)) (by decide) (by decide)) (an o159 ?_)
            rw [show M' (256 + j) (Int.toNat 3) = Ab 14 j from (k2.2.2 j hj).2.2.2]
            refine ⟨⟨rfl, by omega, by omega, by rw [k5]; exact l0, by rw [k5]; exact l1⟩, ?_⟩
            rw [k4, k5]
            have li := lat (Ab 14 j) (by omega)
            refine br (fun g2 => skip (fun z => g2 (li.mpr (by rw [ej] at z; exact z.2)))) (fun g2 => an o159 (an (ak_of sh201 (by omega) (by omega)) ?_))
            have g2 : Ab 14 j = tm := li.mp (Classical.not_not.mp g2)
            have oi := (ho.2.2.2.2.2.2.1 i hi).1
            rw [th_row hxn]
            refine an (ak_of (sh_th i (by omega)) (by decide) (by decide)) (an o159 ?_)
            rw [show M' (202 + i) (Int.toNat 0) = Ab 0 i from (k1.2.2.2.1 i hi).1]
            refine ⟨⟨rfl, by omega, by omega, by omega, by omega⟩, R_X11_minuteGoes_117 R (ih _ _ _ _ (wn hx (by omega)) (fun u v hu => ?_) ?_)⟩
            · rw [up_ne (by omega), up_ne (by omega)]; exact hf u v hu
            · rw [hxn]
              have hc : 0 ≤ ρ 1 i ∧ Ab 14 (ρ 1 i).toNat = tm := ⟨by omega, by rw [ej]; exact g2⟩
              refine RS_put h1 hw ?_ ?_
              · show _ = (if 0 ≤ ρ 1 i ∧ Ab 14 (ρ 1 i).toNat = tm then hm Ab ρ i else ρ 0 i)
                rw [if_pos hc, sp3 _ (by omega)]
                rfl
              · show _ = (if 0 ≤ ρ 1 i ∧ Ab 14 (ρ 1 i).toNat = tm then -1 else ρ 1 i)
                rw [if_pos hc]
    -- what comes in
    have key1 : ∀ i, i ≤ nT Ab → ∀ (x : Int) (M' : Mem) (z3 z4 : Option Vl), x = (i : Int) → (∀ u v, (u < 292 ∨ u = 294 ∨ 297 < u) → M' u v = M u v) → RS M' Ab wo (mxT σ (sA Ab wo m σ) i) → J 2 [some (vR 159), some (vI m), some (vI x), z3, z4] [] M' := by
      refine dn ?_ ?_
      · intro x M' z3 z4 hx hf h1
        obtain ⟨k1, k2, k3, k4, k5⟩ := kp M' (fun u v hu => hf u v (by omega))
        refine R_X11_minuteGoes_2 R (an o159 (an (ak_of sh163 (by decide) (by decide)) (bt (show M' 163 1 ≤ x by rw [k1.2.1.2.1]; omega) (R_X11_minuteGoes_61 R (key2 0 (Nat.zero_le _) _ M' _ _ rfl hf ?_)))))
        rw [mxT_0]
        exact RS_end h1 (fun p hp => ⟨rfl, rfl⟩)
      · intro i hi ih x M' z3 z4 hx hf h1
        have hxn : x.toNat = i := by omega
        obtain ⟨k1, k2, k3, k4, k5⟩ := kp M' (fun u v hu => hf u v (by omega))
        obtain ⟨t0, t1, t2, t3⟩ := k1.2.2.2.1 i hi
        have oi := (ho.2.2.2.2.2.2.1 i hi).1
        have tA : ¬ (σ 0 i = -2 ∧ thC Ab wo i = m) → sA Ab wo m σ 0 i = σ 0 i := by
          intro hc
          show (if σ 0 i = -2 ∧ thC Ab wo i = m then hm Ab σ i else σ 0 i) = σ 0 i
          rw [if_neg hc]
        have ec : (i : Int) ≠ wo → thC Ab wo i = thF Ab wo i := fun q => by unfold thC; rw [if_neg q]
        have skip : ¬ (σ 0 i = -2 ∧ thC Ab wo i = m) → J 55 [some (vR 159), some (vI m), some (vI x), z3, z4] [] M' := by
          intro hc
          refine R_X11_minuteGoes_55 R (ih _ _ _ _ (wn hx (by omega)) hf (RS_skip h1 (fun _ => ⟨tA hc, rfl⟩) (fun q => ?_)))
          rw [tA hc]
          exact ((hrs.1 i hi).2 q).2
        refine R_X11_minuteGoes_2 R (an o159 (an (ak_of sh163 (by decide) (by decide)) (bf (show ¬ M' 163 1 ≤ x by rw [k1.2.1.2.1]; omega) (an o159 (br (fun g => skip (fun z => ?_)) (fun g => an o159 (an (ak_of sh201 (by omega) (by omega)) ?_)))))))
        · have g : x = M' 159 35 := g
          rw [k3] at g
          have z2 := z.2
          unfold thC at z2
          rw [if_pos (by omega)] at z2
          omega
        · have g : ¬ x = M' 159 35 := g
          rw [k3] at g
          have hw : (i : Int) ≠ wo := by omega
          have hrt2 : M' (159 + 135) x.toNat = thF Ab wo i := by rw [hxn]; exact (hf 294 i (by omega)).trans (hrt i hi hw)
          rw [th_row hxn]
          refine an (ak_of (sh_th i (by omega)) (by decide) (by decide)) ?_
          rw [show M' (202 + i) (Int.toNat 2) = Ab 2 i from t2]
          refine br (fun g2 => skip (fun z => ((hou i hi hw).mp z.1).1 g2)) (fun g2 => an o159 (an (ak_of sh294 (by omega) (by omega)) ?_))
          rw [hrt2]
          refine br (fun g3 => skip (fun z => g3 ((ec hw).symm.trans z.2))) (fun g3 => an o159 (an (ak_of sh201 (by omega) (by omega)) ?_))
          have g3 : thF Ab wo i = m := Classical.not_not.mp g3
          have h2 : σ 0 i = -2 := (hou i hi hw).mpr ⟨g2, by omega⟩
          rw [th_row hxn]
          refine an (ak_of (sh_th i (by omega)) (by decide) (by decide)) (an o159 ?_)
          rw [show M' (202 + i) (Int.toNat 0) = Ab 0 i from t0]
          refine ⟨⟨rfl, by omega, by omega, by omega, by omega⟩, R_X11_minuteGoes_55 R (ih _ _ _ _ (wn hx (by omega)) (fun u v hu => ?_) ?_)⟩
          · rw [up_ne (by omega), up_ne (by omega)]; exact hf u v hu
          · rw [hxn]
            have sp3 : M' 296 (Ab 0 i).toNat = σ 3 (Ab 0 i).toNat := by
              rw [(h1.2 _ (by omega)).2]
              unfold mxT
              rw [if_neg (by omega)]
            refine RS_put h1 hw ?_ ?_
            · have e9 : sA Ab wo m σ 0 i = hm Ab σ i := show (if σ 0 i = -2 ∧ thC Ab wo i = m then hm Ab σ i else σ 0 i) = hm Ab σ i from if_pos ⟨h2, (ec hw).trans g3⟩
              rw [e9, sp3]
              rfl
            · show -1 = σ 1 i
              rcases hg.2.1 i hi with b | ⟨j, hj, b1, b2, b3⟩
              · exact b.symm
              · have lo := lok hlo (i := j) (by unfold nL at hj; omega)
                omega
    refine ⟨Nat.le_of_ble_eq_true rfl, R_X11_minuteGoes_0 R (key1 0 (Nat.zero_le _) _ M _ _ rfl (fun _ _ _ => rfl) ?_)⟩
    rw [mxT_0]
    exact hrs

  · exact h.elim