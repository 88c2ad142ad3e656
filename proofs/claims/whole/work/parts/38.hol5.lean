theorem P_X4_find {J : JT} {Q : QT} (R : R_X4_find J Q) {as : List Vl} {M : Mem} (h : nf G_X4_find as M Q) : (enL as).length ≤ 6 ∧ J 0 (padL 6 (enL as)) [] M := by
  unfold nf G_X4_find at h
  split at h
  · rename_i k pl ba
    obtain ⟨Ab, ⟨rfl, rfl⟩, ⟨hk, hp, ho⟩, hb, hv, hQ⟩ := h
    have hl := pl_lt hk
    obtain ⟨n1, n2⟩ := nT_le ho
    have hp14 := p14 n1
    have e6 : ((nV Ab : Nat) : Int) = Ab 10 6 := by have := hv.1; unfold nV; omega
    have v9 : nV Ab ≤ 9 := by have := hv.1; omega
    have hpk : ∀ M' : Mem, (∀ u v, (u < 129 ∨ 131 < u) → M' u v = M u v) → PlanRel M' pl Ab ∧ BalRel M' 35 Ab 15 (Ab 10 6) := fun M' h1 => ⟨hp.kept (fun u v q1 q2 => h1 u v (by omega)), hb.kept (fun u v q1 q2 => h1 u v (by omega))⟩
    have key : ∀ i : Nat, i ≤ 2 ^ nT Ab → 1 ≤ i → ∀ (x y : Int) (M' : Mem) (z : Option Vl), x = (i : Int) → y = (gray (i - 1) : Int) → (∀ u v, (u < 129 ∨ 131 < u) → M' u v = M u v) → (∀ v, v < nV Ab → M' 130 v = ovF Ab v (gray (i - 1))) → (∀ v t, v < nV Ab → t < nT Ab → M' 131 (14 * v + t) = sg Ab v t * (Ab 1 t / 2 - Ab 1 t)) → HI Ab gray i (M' 129 1) (M' 129 2) (M' 129 3) (M' 129 4) → J 38 [some (vR 129), some (vR pl), some (vR 35), some (vI y), some (vI x), z] [] M' := by
      refine dn ?_ ?_
      · intro _ x y M' z hx hy h1 h2 h3 h4
        obtain ⟨hp2, hb2⟩ := hpk M' h1
        refine R_X4_find_38 R (an (pl_ob hk) (bt (show shlI 1 (M' pl 3) ≤ x by rw [hp2.2.1, ← n2, shl1 _ (by omega)]; omega) (R_X4_find_102 R (an o129 (an (Or.inr rfl) (hQ _ (fun u v hu => ?_) up_eq ?_))))))
        · rw [up_ne (by omega)]; exact h1 u v hu
        · unfold HolRel
          rw [up_ne (by decide), up_ne (by decide), up_ne (by decide), up_ne (by decide)]
          exact HI_gray h4
      · intro i hi ih i1 x y M' z hx hy h1 h2 h3 h4
        subst hx hy
        obtain ⟨hp2, hb2⟩ := hpk M' h1
        have gs : Unit → _ := fun _ => gray_step (k := i) (by omega) (by omega)
        obtain ⟨l1, l2, -⟩ := low_sp (s := i) (by omega) (by omega)
        have l4 := bit_lt hi l1
        have g1 : gray (i - 1) < 2 ^ nT Ab := gray_lt (by omega)
        have g2 : gray i < 2 ^ nT Ab := gray_lt hi
        have ex : Unit → xorI (gray (i - 1) : Int) (shlI 1 ((lowB i : Nat) : Int)) = ((gray i : Nat) : Int) := fun _ => by
          rw [shl1 _ (by omega), gs ()]
          have := pw_lt l4
          exact xorI_n (by omega) (by omega)
        have go : ∀ sn : Int, sn = (if (gray i).testBit (lowB i) = true then 1 else -1) → J 80 [some (vR 129), some (vR pl), some (vR 35), some (vI (gray i : Int)), some (vI (i : Int)), some (vI (lowB i : Nat))] [vI sn, vI (lowB i : Nat), vR 129] M' := by
          intro sn hsn
          have e0 : M' 35 0 = ((nV Ab : Nat) : Int) := by rw [hb2.1]; exact e6.symm
          refine R_X4_find_80 R (an o35 (an o129 ⟨fun v => ovF Ab v (gray (i - 1)), fun v => sg Ab v (lowB i) * (Ab 1 (lowB i) / 2 - Ab 1 (lowB i)), ⟨rfl, ?_, ?_, by omega, by omega, ?_⟩, fun v hv2 => ?_, fun M2 m1 m2 => an o35 ?_⟩))
          · rw [e0]; omega
          · rw [e0]; omega
          · rw [hsn]; split
            · exact Or.inl rfl
            · exact Or.inr rfl
          · have hv3 : v < nV Ab := by rw [e0] at hv2; exact hv2
            have w99 := (ho.2.2.2.2.2.2.1 (lowB i) l4).2.1
            have b8 := sgw (Ab := Ab) v (lowB i) (x := Ab 1 (lowB i) / 2 - Ab 1 (lowB i)) (by omega) (by omega)
            exact ⟨h2 v hv3, ovF_bd ho hv hv3 _, h3 v _ hv3 l4, Int.le_trans (by decide) b8.1, Int.le_trans b8.2 (by decide)⟩
          · rw [e0] at m2
            have e0' : M2 35 0 = Ab 10 6 := by rw [m1 _ _ (by decide)]; exact hb2.1
            have o2 : ∀ v, v < nV Ab → M2 130 v = ovF Ab v (gray i) := by
              intro v hv2
              rw [m2 v hv2, hsn, gs (), ov_step v l4]
            refine an o129 ⟨Ab, gray, i, ⟨rfl, e0', ?_, ?_, n1, rfl, g2, by omega⟩, o2, ?_, fun M3 k1 k2 => ?_⟩
            · show 0 ≤ M2 35 0
              rw [e0']; omega
            · show M2 35 0 ≤ 9
              rw [e0']; omega
            · rw [m1 _ _ (by decide), m1 _ _ (by decide), m1 _ _ (by decide), m1 _ _ (by decide)]
              exact h4
            · refine ih (by omega) _ _ _ _ (wn rfl (by omega)) rfl (fun u v hu => ?_) (fun v hv2 => ?_) (fun v t hv2 ht => ?_) k2
              · rw [k1 _ _ (by omega), m1 _ _ (by omega)]; exact h1 u v hu
              · rw [k1 _ _ (by decide)]; exact o2 v hv2
              · rw [k1 _ _ (by decide), m1 _ _ (by decide)]; exact h3 v t hv2 ht
        refine R_X4_find_38 R (an (pl_ob hk) (bf (show ¬ shlI 1 (M' pl 3) ≤ (i : Int) by rw [hp2.2.1, ← n2, shl1 _ (by omega)]; omega) (an ⟨by omega, by omega⟩ ?_)))
        show (0 ≤ ((lowB i : Nat) : Int) ∧ ((lowB i : Nat) : Int) < 31 ∧ 0 ≤ xorI (gray (i - 1) : Int) (shlI 1 ((lowB i : Nat) : Int)) ∧ xorI (gray (i - 1) : Int) (shlI 1 ((lowB i : Nat) : Int)) < 2147483648) ∧ _
        rw [ex ()]
        refine an ⟨by omega, by omega, by omega, by omega⟩ (br (fun q => bf (by decide) ?_) (fun q => bt rfl (R_X4_find_79 R ?_)))
        · have q : bitB (xorI (gray (i - 1) : Int) (shlI 1 ((lowB i : Nat) : Int))) ((lowB i : Nat) : Int) = true := q
          rw [ex ()] at q
          have q2 : (gray i).testBit (lowB i) = true := q
          have := go 1 (by rw [if_pos q2])
          rw [← ex ()] at this
          exact this
        · have q : ¬ bitB (xorI (gray (i - 1) : Int) (shlI 1 ((lowB i : Nat) : Int))) ((lowB i : Nat) : Int) = true := q
          rw [ex ()] at q
          have q2 : ¬ (gray i).testBit (lowB i) = true := q
          have := go (-1) (by rw [if_neg q2])
          rw [← ex ()] at this
          exact this
    have hp0 : PlanRel (up M 129 1 0) pl Ab := hp.kept (fun u v q1 q2 => up_ne (by omega))
    refine ⟨Nat.le_of_ble_eq_true rfl, R_X4_find_0 R (an o129 (an (pl_ob hk) ⟨Ab, ⟨hk, hp0, ho⟩, an o129 (an o129 ?_)⟩))⟩
    generalize hM2 : up (up (up M 129 1 0) 129 2 (((2 ^ nT Ab : Nat) : Int) - 1)) 129 3 0 = M2
    have f2 : ∀ u v, u ≠ 129 → M2 u v = M u v := fun u v hu => by rw [← hM2, up_ne (by omega), up_ne (by omega), up_ne (by omega)]
    refine an o129 ⟨Ab, ⟨rfl, rfl⟩, ⟨hk, hp.kept (fun u v q1 q2 => f2 u v (by omega)), ho⟩, hb.kept (fun u v q1 q2 => f2 u v (by omega)), hv, fun M3 m1 m2 m3 => ?_⟩
    have e0 : M3 35 0 = Ab 10 6 := by rw [m1 _ _ (by decide) (by decide), f2 _ _ (by decide)]; exact hb.1
    refine an o35 (an o129 ⟨Ab, gray, 0, ⟨rfl, e0, ?_, ?_, n1, rfl, Nat.two_pow_pos _, by decide⟩, m2, ?_, fun M4 k1 k2 => ?_⟩)
    · show 0 ≤ M3 35 0
      rw [e0]; omega
    · show M3 35 0 ≤ 9
      rw [e0]; omega
    · rw [m1 _ _ (by decide) (by decide), m1 _ _ (by decide) (by decide), m1 _ _ (by decide) (by decide), m1 _ _ (by decide) (by decide)]
      have a1 : M2 129 1 = 0 := by rw [← hM2, up_ne (by decide), up_ne (by decide), up_eq]
      have a2 : M2 129 2 = ((2 ^ nT Ab : Nat) : Int) - 1 := by rw [← hM2, up_ne (by decide), up_eq]
      have a3 : M2 129 3 = 0 := by rw [← hM2, up_eq]
      rw [a1, a2, a3]
      exact HI_0 Ab gray _
    · refine key 1 (Nat.two_pow_pos _) (by omega) _ _ _ _ rfl rfl (fun u v hu => ?_) (fun v hv2 => ?_) (fun v t hv2 ht => ?_) k2
      · rw [k1 _ _ (by omega), m1 _ _ (by omega) (by omega), f2 _ _ (by omega)]
      · rw [k1 _ _ (by decide)]; exact m2 v hv2
      · rw [k1 _ _ (by decide)]; exact m3 v t hv2 ht

  · exact h.elim