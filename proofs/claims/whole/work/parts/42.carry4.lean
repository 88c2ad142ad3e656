theorem P_X2_find {J : JT} {Q : QT} (R : R_X2_find J Q) {as : List Vl} {M : Mem} (h : nf G_X2_find as M Q) : (enL as).length ≤ 6 ∧ J 0 (padL 6 (enL as)) [] M := by
  unfold nf G_X2_find at h
  split at h
  · rename_i k pl m ag
    obtain ⟨Ab, rfl, ⟨hk, hp, ho⟩, ⟨m0, m1⟩, ⟨a0, a1⟩, hQ⟩ := h
    have hl := pl_117 hk
    obtain ⟨q1, q2⟩ := nM_le ho
    have hm : m.toNat < nM Ab := by omega
    have hw := cw_ok ho (Ab 8 m.toNat)
    have hcc := cc_ok ho hm (Ab 8 m.toNat)
    have hK : crN (Ab 8 m.toNat) (nP Ab) ≤ 10 := by have := crN_le (Ab 8 m.toNat) (nP Ab); have := (nP_le ho).1; omega
    unfold lpF lsF at hQ
    generalize hwe : cwF Ab (Ab 8 m.toNat) = w at hQ hw
    generalize hce : ccF Ab m.toNat (Ab 8 m.toNat) = caps at hQ hcc
    generalize hne : fwN Ab (Ab 8 m.toNat) (nT Ab) = n at hQ hw
    generalize hKe : crN (Ab 8 m.toNat) (nP Ab) = K at hQ hK
    generalize hC : (fun s => tf (CanP w caps n K s)) = C at hQ
    have n10 := p10 hw.1
    have key : ∀ s : Nat, s ≤ 2 ^ n → 1 ≤ s → ∀ (x : Int) (M' : Mem) (z : Option Vl), x = (s : Int) → (∀ u v, (u < 117 ∨ 121 < u) → M' u v = M u v) → CarRel M' w caps n K → (∀ r, r < s → M' 120 r = wS w r n) → (∀ r, r < s → NdOK w caps n K r (M' 121 r)) → M' 117 7 = lsP C (fun s => wS w s n) ag s → M' 117 6 = (if lsP C (fun s => wS w s n) ag s = -1 then -1 else wS w (lsP C (fun s => wS w s n) ag s).toNat n) → J 51 [some (vR 117), some (vR pl), some (vI m), some (vI ag), some (vI x), z] [] M' := by
      refine dn ?_ ?_
      · intro _ x M' z hx h1 h2 h3 h4 h5 h6
        have hw1 := hw.1
        exact R_X2_find_51 R (an o117 (bt (show shlI 1 (M' 117 0) ≤ x by rw [h2.1, shl1 _ (by omega)]; omega) (R_X2_find_185 R (hQ M' h1 h6 h5))))
      · intro s hs ih s1 x M' z hx h1 h2 h3 h4 h5 h6
        have hw1 := hw.1
        have hxn : x.toNat = s := by omega
        obtain ⟨c0, c2, -, -, hcp, c8, c9⟩ := h2
        obtain ⟨l1, l2, -⟩ := low_sp (s := s) (by omega) (by omega)
        have l4 := bit_lt hs l1
        have al := and_pred_lt (s := s) (by omega)
        have ea : Unit → andI x (f_sub x 1) = ((s &&& (s - 1) : Nat) : Int) := fun _ => by rw [hx]; exact and_p (by omega) (by omega)
        have wb := wS_990 hw s
        have lb := lsP_bd C (fun s => wS w s n) ag s
        have ep : f_add (M' 120 (andI x (f_sub x 1)).toNat) (M' 118 (lowB s)) = wS w s n := by
          rw [ea (), Int.toNat_natCast, h3 _ al, c8 _ l4]
          exact w1 (by omega) (by omega) (wS_low (by omega) hs (by omega)).symm
        refine R_X2_find_51 R (an o117 (bf (show ¬ shlI 1 (M' 117 0) ≤ x by rw [c0, shl1 _ (by omega)]; omega) (an o117 (an o117 (an (show AK 1 120 (andI x (f_sub x 1)) by rw [ea ()]; exact ak_of sh120 (by omega) (by omega)) (an o117 (an ⟨by omega, by omega⟩ ?_)))))))
        rw [hxn]
        refine an (show AK 1 118 ((lowB s : Nat) : Int) from ak_of sh118 (by omega) (by omega)) (an (ak_of sh120 (by omega) (by omega)) ?_)
        generalize hM2 : up M' (117 + 3) x.toNat (f_add (M' (117 + 3) (andI x (f_sub x 1)).toNat) (M' (117 + 1) ((lowB s : Nat) : Int).toNat)) = M2
        have k2 : ∀ u v, ¬ (u = 120 ∧ v = s) → M2 u v = M' u v := fun u v hu => by rw [← hM2, hxn, up_ne (by omega)]
        have k3 : M2 120 s = wS w s n := by rw [← hM2, hxn]; exact up_eq.trans ep
        clear ep
        have cr2 : CarRel M2 w caps n K := ⟨by rw [k2 _ _ (by omega)]; exact c0, by rw [k2 _ _ (by omega)]; exact c2, hw, hK, hcp, fun i hi => by rw [k2 _ _ (by omega)]; exact c8 i hi, fun c hc => by rw [k2 _ _ (by omega)]; exact c9 c hc⟩
        refine an o117 (an o117 ⟨w, caps, n, K, ⟨rfl, by omega, by omega⟩, cr2, fun r hr => by rw [k2 _ _ (by omega)]; exact h4 r (by omega), fun v hv => an (ak_of sh121 (by omega) (by omega)) ?_⟩)
        rw [hxn] at hv
        generalize hM3 : up M2 (117 + 4) x.toNat v = M3
        have j2 : ∀ u v, ¬ (u = 121 ∧ v = s) → M3 u v = M2 u v := fun u v hu => by rw [← hM3, hxn, up_ne (by omega)]
        have j3 : M3 121 s = v := by rw [← hM3, hxn]; exact up_eq
        have p3 : M3 120 s = wS w s n := by rw [j2 _ _ (by omega)]; exact k3
        have l6 : M3 117 6 = M' 117 6 := by rw [j2 _ _ (by omega), k2 _ _ (by omega)]
        have l7 : M3 117 7 = M' 117 7 := by rw [j2 _ _ (by omega), k2 _ _ (by omega)]
        have can := nd_can (fun c => (hcp c).1) hK (by omega) hv
        have hCs : C s = true ↔ v ≠ 1000000 := by rw [← hC]; exact tf_iff.trans can.symm
        have fin : ∀ (M4 : Mem) (z2 : Option Vl), (∀ u v, ¬ (u = 117 ∧ (v = 6 ∨ v = 7)) → M4 u v = M3 u v) → M4 117 7 = lsP C (fun s => wS w s n) ag (s + 1) → M4 117 6 = (if lsP C (fun s => wS w s n) ag (s + 1) = -1 then -1 else wS w (lsP C (fun s => wS w s n) ag (s + 1)).toNat n) → J 179 [some (vR 117), some (vR pl), some (vI m), some (vI ag), some (vI x), z2] [] M4 := by
          intro M4 z2 g1 g7 g6
          refine R_X2_find_179 R (ih (by omega) _ _ _ (wn hx (by omega)) (fun u v hu => ?_) ?_ (fun r hr => ?_) (fun r hr => ?_) g7 g6)
          · rw [g1 _ _ (by omega), j2 _ _ (by omega), k2 _ _ (by omega)]; exact h1 u v hu
          · obtain ⟨y0, y2, y3, y4, y5, y8, y9⟩ := cr2
            exact ⟨by rw [g1 _ _ (by omega), j2 _ _ (by omega)]; exact y0, by rw [g1 _ _ (by omega), j2 _ _ (by omega)]; exact y2, y3, y4, y5, fun i hi => by rw [g1 _ _ (by omega), j2 _ _ (by omega)]; exact y8 i hi, fun c hc => by rw [g1 _ _ (by omega), j2 _ _ (by omega)]; exact y9 c hc⟩
          · rw [g1 _ _ (by omega)]
            by_cases e : r = s
            · subst e; exact p3
            · rw [j2 _ _ (by omega), k2 _ _ (by omega)]; exact h3 r (by omega)
          · rw [g1 _ _ (by omega)]
            by_cases e : r = s
            · subst e; rw [j3]; exact hv
            · rw [j2 _ _ (by omega), k2 _ _ (by omega)]; exact h4 r (by omega)
        have stay : ∀ z2, ¬ (C s = true ∧ ag < wS w s n ∧ (lsP C (fun s => wS w s n) ag s = -1 ∨ wS w s n < wS w (lsP C (fun s => wS w s n) ag s).toNat n)) → J 179 [some (vR 117), some (vR pl), some (vI m), some (vI ag), some (vI x), z2] [] M3 := by
          intro z2 no
          refine fin M3 z2 (fun _ _ _ => rfl) ?_ ?_
          · rw [lsP, if_neg no, l7]; exact h5
          · rw [lsP, if_neg no, l6]; exact h6
        have take : ∀ z2, (C s = true ∧ ag < wS w s n ∧ (lsP C (fun s => wS w s n) ag s = -1 ∨ wS w s n < wS w (lsP C (fun s => wS w s n) ag s).toNat n)) → J 162 [some (vR 117), some (vR pl), some (vI m), some (vI ag), some (vI x), z2] [] M3 := by
          intro z2 yes
          refine R_X2_find_162 R (an o117 (an (ak_of sh120 (by omega) (by omega)) (an o117 (an o117 (fin _ z2 (fun u v hu => ?_) ?_ ?_)))))
          · rw [up_ne (by omega), up_ne (by omega)]
          · rw [up_eq, lsP, if_pos yes]; exact hx
          · rw [up_ne (by omega), up_eq, hxn, lsP, if_pos yes, if_neg (by omega), Int.toNat_natCast]
            exact p3
        have at133 : ∀ (b : Int) (z2 : Option Vl), (b = 1 ∧ C s = true ∧ ag < wS w s n) ∨ (b = 0 ∧ ¬ (C s = true ∧ ag < wS w s n)) → J 133 [some (vR 117), some (vR pl), some (vI m), some (vI ag), some (vI x), z2] [vI b] M3 := by
          intro b z2 hb
          have p3' : M3 (117 + 3) x.toNat = wS w s n := by rw [hxn]; exact p3
          rcases hb with ⟨rfl, b1, b2⟩ | ⟨rfl, b1⟩
          · refine R_X2_find_133 R (bf (by decide) (an o117 (br (fun g => take _ ⟨b1, b2, Or.inl ?_⟩) (fun g => an o117 (an (ak_of sh120 (by omega) (by omega)) (an o117 (br (fun g2 => stay _ (fun z3 => ?_)) (fun g2 => take _ ⟨b1, b2, Or.inr ?_⟩))))))))
            · have g : M3 117 6 = -1 := g
              rw [l6, h6] at g
              by_cases e : lsP C (fun s => wS w s n) ag s = -1
              · exact e
              · rw [if_neg e] at g
                have := wS_990 hw (lsP C (fun s => wS w s n) ag s).toNat
                omega
            · have g : ¬ M3 117 6 = -1 := g
              have g2 : M3 117 6 ≤ M3 (117 + 3) x.toNat := g2
              rw [p3', l6, h6] at g2
              rw [l6, h6] at g
              by_cases e : lsP C (fun s => wS w s n) ag s = -1
              · rw [if_pos e] at g; exact g rfl
              · rw [if_neg e] at g2
                rcases z3.2.2 with y | y
                · exact e y
                · omega
            · have g : ¬ M3 117 6 = -1 := g
              have g2 : ¬ M3 117 6 ≤ M3 (117 + 3) x.toNat := g2
              rw [p3', l6, h6] at g2
              rw [l6, h6] at g
              by_cases e : lsP C (fun s => wS w s n) ag s = -1
              · rw [if_pos e] at g; exact absurd rfl g
              · rw [if_neg e] at g2
                omega
          · exact R_X2_find_133 R (bt rfl (stay _ (fun z3 => b1 ⟨z3.1, z3.2.1⟩)))
        refine an o117 (an (ak_of sh121 (by omega) (by omega)) ?_)
        have j3' : M3 (117 + 4) x.toNat = v := by rw [hxn]; exact j3
        rw [j3']
        refine br (fun g => R_X2_find_132 R (at133 0 _ (Or.inr ⟨rfl, fun z3 => ?_⟩))) (fun g => an o117 (an (ak_of sh120 (by omega) (by omega)) ?_))
        · exact hCs.mp z3.1 g
        · have p3' : M3 (117 + 3) x.toNat = wS w s n := by rw [hxn]; exact p3
          rw [p3']
          refine br (fun g2 => R_X2_find_132 R (at133 0 _ (Or.inr ⟨rfl, fun z3 => ?_⟩))) (fun g2 => at133 1 _ (Or.inl ⟨rfl, hCs.mpr g, ?_⟩))
          · have g2 : wS w s n ≤ ag := g2
            omega
          · have g2 : ¬ wS w s n ≤ ag := g2
            omega
    refine ⟨Nat.le_of_ble_eq_true rfl, R_X2_find_0 R (an o117 ⟨Ab, rfl, ⟨hk, hp, ho⟩, ⟨m0, m1⟩, fun M1 f1 f2 f3 => an o117 ⟨Ab, rfl, ⟨hk, hp.kept (fun u v q1 q2 => f1 u v (by omega) (by omega)), ho⟩, ⟨m0, m1⟩, fun M2 g1 g2 g3 => ?_⟩⟩)⟩
    rw [hne] at f2 f3
    rw [hwe] at f3
    rw [hKe] at g2 g3
    rw [hce] at g3
    have go47 : ∀ b : Int, b = (if 0 < K then 0 else 1000000) → ∀ z, J 47 [some (vR 117), some (vR pl), some (vI m), some (vI ag), z, none] [vI b, vI 0, vR 121] (up (up (up M2 117 6 (-1)) 117 7 (-1)) 120 0 0) := by
      intro b hb z
      refine R_X2_find_47 R (an (ak_of sh121 (by decide) (by decide)) (key 1 (Nat.two_pow_pos _) (by omega) _ _ _ rfl (fun u v hu => ?_) ?_ (fun r hr => ?_) (fun r hr => ?_) ?_ ?_))
      · rw [up_ne (by omega), up_ne (by omega), up_ne (by omega), up_ne (by omega), g1 _ _ (by omega) (by omega), f1 _ _ (by omega) (by omega)]
      · refine ⟨?_, ?_, hw, hK, hcc, fun i hi => ?_, fun c hc => ?_⟩
        · rw [up_ne (by omega), up_ne (by omega), up_ne (by omega), up_ne (by omega), g1 _ _ (by omega) (by omega)]; exact f2
        · rw [up_ne (by omega), up_ne (by omega), up_ne (by omega), up_ne (by omega)]; exact g2
        · rw [up_ne (by omega), up_ne (by omega), up_ne (by omega), up_ne (by omega), g1 _ _ (by omega) (by omega)]; exact f3 i hi
        · rw [up_ne (by omega), up_ne (by omega), up_ne (by omega), up_ne (by omega)]; exact g3 c hc
      · obtain rfl : r = 0 := by omega
        rw [up_ne (by omega), wS_0]; exact up_eq
      · obtain rfl : r = 0 := by omega
        rw [show Int.toNat 0 = 0 from rfl, up_eq, hb]
        exact nd_0 (fun c => (hcc c).1)
      · rw [up_ne (by omega), up_ne (by omega), up_eq, lsP, lsP, if_neg (fun y => ?_)]
        have y2 : ag < wS w 0 n := y.2.1
        rw [wS_0] at y2
        omega
      · have e : lsP C (fun s => wS w s n) ag 1 = -1 := by
          rw [lsP, lsP, if_neg (fun y => ?_)]
          have y2 : ag < wS w 0 n := y.2.1
          rw [wS_0] at y2
          omega
        rw [up_ne (by omega), up_ne (by omega), up_ne (by omega), up_eq, if_pos e]
    have e2 : up (up (up M2 117 6 (-1)) 117 7 (-1)) 120 0 0 117 2 = (K : Int) := by rw [up_ne (by omega), up_ne (by omega), up_ne (by omega)]; exact g2
    refine an o117 (an o117 (an o117 (an (ak_of sh120 (by decide) (by decide)) (an o117 (an o117 (br (fun g => R_X2_find_45 R (go47 _ ?_ _)) (fun g => go47 _ ?_ _)))))))
    · have g : up (up (up M2 117 6 (-1)) 117 7 (-1)) 120 0 0 117 2 ≤ 0 := g
      rw [e2] at g
      rw [if_neg (by omega)]
    · have g : ¬ up (up (up M2 117 6 (-1)) 117 7 (-1)) 120 0 0 117 2 ≤ 0 := g
      rw [e2] at g
      rw [if_pos (by omega)]

  · exact h.elim