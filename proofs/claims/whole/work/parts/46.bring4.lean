theorem wS_le {w : Nat → Int} {n : Nat} (s : Nat) : ∀ {i : Nat}, i ≤ n → (∀ j, j < n → 0 ≤ w j) → 0 ≤ wS w s i ∧ wS w s i ≤ sumN w i
  | 0, _, _ => by simp [wS, sumN]
  | i + 1, h, hw => by
    have ih := wS_le s (i := i) (by omega) hw
    have := hw i (by omega)
    unfold wS at ih ⊢
    rw [sumN, sumN]
    split <;> omega
theorem tn_0 (Ab : Mem) (L : Nat → Nat) : ∀ n, tnF Ab L 0 n = 0
  | 0 => rfl
  | n + 1 => by rw [tnF, bz, tn_0 Ab L n]; rfl
theorem sum_99 {w : Nat → Int} : ∀ {n : Nat}, (∀ j, j < n → 1 ≤ w j ∧ w j ≤ 99) → 0 ≤ sumN w n ∧ sumN w n ≤ 99 * (n : Int)
  | 0, _ => by simp [sumN]
  | n + 1, h => by
    have ih := sum_99 (n := n) (fun j hj => h j (by omega))
    have := h n (by omega)
    rw [sumN]
    omega
theorem P_X1_mostPounds {J : JT} {Q : QT} (R : R_X1_mostPounds J Q) {as : List Vl} {M : Mem} (h : nf G_X1_mostPounds as M Q) : (enL as).length ≤ 8 ∧ J 0 (padL 8 (enL as)) [] M := by
  unfold nf G_X1_mostPounds at h
  split at h
  · rename_i k pl d mi
    obtain ⟨Ab, rfl, ⟨hk, hp, ho⟩, ⟨m0, m1⟩, hQ⟩ := h
    have hl := pl_117 hk
    obtain ⟨n1, n2⟩ := nT_le ho
    refine ⟨Nat.le_of_ble_eq_true rfl, R_X1_mostPounds_0 R (an o122 ⟨Ab, rfl, ⟨hk, hp, ho⟩, fun M1 L n f1 f2 f3 f4 f5 => an o122 (an (ak_of sh124 (by decide) (by decide)) ?_)⟩)⟩
    have Lt : ∀ i, i < n → L i < nT Ab := fun i hi => (f2.1 i hi).1
    have wb : ∀ i, i < n → 1 ≤ Ab 1 (L i) ∧ Ab 1 (L i) ≤ 99 := fun i hi => (ho.2.2.2.2.2.2.1 _ (Lt i hi)).2.1
    have sb : ∀ i, i ≤ n → 0 ≤ sumN (fun j => Ab 1 (L j)) i ∧ sumN (fun j => Ab 1 (L j)) i ≤ 1386 := fun i hi => by
      have := sum_99 (w := fun j => Ab 1 (L j)) (n := i) (fun j hj => wb j (by omega))
      omega
    have wle : ∀ s i, i ≤ n → 0 ≤ wS (fun j => Ab 1 (L j)) s i ∧ wS (fun j => Ab 1 (L j)) s i ≤ sumN (fun j => Ab 1 (L j)) i := fun s i hi => wS_le s hi (fun j hj => by have := wb j hj; omega)
    have tnb : ∀ s i, i ≤ n → 0 ≤ tnF Ab L s i ∧ tnF Ab L s i ≤ 2000 := fun s i hi => by
      have := tn_bd ho Lt (fun i hi => pass_bd ho (Lt i hi)) s hi
      omega
    have sob : ∀ i x v, i ≤ n → SoP Ab L i x v → 0 ≤ v ∧ v ≤ 1000000 := by
      intro i x v hi h
      rcases h with ⟨h, -⟩ | ⟨⟨s, -, -, h⟩, -⟩
      · omega
      · have := tnb s i hi
        omega
    have last : ∀ (M' : Mem) (al : Int), al = sumN (fun j => Ab 1 (L j)) n → (∀ u v, (u < 122 ∨ 124 < u) → M' u v = M u v) → (∀ y : Nat, (y : Int) ≤ al → SoP Ab L n (y : Int) (M' 124 y)) → ∀ j : Nat, j ≤ al.toNat → ∀ (x : Int) (z6 z7 : Option Vl), x = al - (j : Int) → (∀ y : Nat, x < (y : Int) → (y : Int) ≤ al → mi < M' 124 y) → J 118 [some (vR 122), some (vR pl), some (vI d), some (vI mi), some (vI al), some (vI x), z6, z7] [] M' := by
      intro M' al hal h1 h2
      have sbn := sb n (Nat.le_refl _)
      have lim : ∀ x : Int, (∀ y : Nat, x < (y : Int) → (y : Int) ≤ al → mi < M' 124 y) → ∀ s, s < 2 ^ n → tnF Ab L s n ≤ mi → wS (fun i => Ab 1 (L i)) s n ≤ x := by
        intro x hx s hs ht
        refine Int.not_lt.mp (fun q => ?_)
        have wl := wle s n (Nat.le_refl _)
        obtain ⟨y, hy⟩ : ∃ y : Nat, wS (fun j => Ab 1 (L j)) s n = (y : Int) := ⟨_, (Int.toNat_of_nonneg wl.1).symm⟩
        have hy2 : wS (fun i => Ab 1 (L i)) s n = (y : Int) := hy
        rw [hy2] at q
        have g := hx y q (by omega)
        rcases h2 y (by omega) with ⟨-, z⟩ | ⟨-, z⟩
        · exact z s hs hy2
        · have := z s hs hy2
          omega
      refine dn ?_ ?_
      · intro x z6 z7 hx h3
        refine R_X1_mostPounds_118 R (bt (show x ≤ 0 by omega) (R_X1_mostPounds_143 R (hQ M' 0 h1 ⟨L, n, f2, ⟨0, Nat.two_pow_pos _, by rw [tn_0]; exact m0, wS_0 _ _⟩, ?_⟩)))
        have := lim x h3
        intro s hs ht
        have := this s hs ht
        omega
      · intro j hj ih x z6 z7 hx h3
        refine R_X1_mostPounds_118 R (bf (show ¬ x ≤ 0 by omega) (an o122 (an (ak_of sh124 (by omega) (by omega)) (br (fun g => R_X1_mostPounds_137 R (ih _ _ _ (w1 (by omega) (by omega) (by omega)) (fun y hy hy2 => ?_))) (fun g => hQ M' x h1 ⟨L, n, f2, ?_, lim x h3⟩)))))
        · have g : mi < M' 124 x.toNat := g
          have ex : w32 (x + -1) = x - 1 := w1 (by omega) (by omega) (by omega)
          have hy : w32 (x + -1) < (y : Int) := hy
          rw [ex] at hy
          clear ex
          by_cases e : x = (y : Int)
          · rw [show x.toNat = y by omega] at g; exact g
          · exact h3 y (by omega) hy2
        · have g : ¬ mi < M' 124 x.toNat := g
          have s2 := h2 x.toNat (by omega)
          rw [show ((x.toNat : Nat) : Int) = x by omega] at s2
          rcases s2 with ⟨z, -⟩ | ⟨⟨s, s1, s3, s4⟩, -⟩
          · omega
          · exact ⟨s, s1, by omega, s3⟩
    have key : ∀ i, i ≤ n → ∀ (x al : Int) (M' : Mem) (z6 z7 : Option Vl), x = (i : Int) → al = sumN (fun j => Ab 1 (L j)) i → (∀ u v, (u < 122 ∨ 124 < u) → M' u v = M u v) → M' 122 0 = (n : Int) → (∀ j, j < n → M' 123 j = (L j : Int)) → (∀ y : Nat, (y : Int) ≤ al → SoP Ab L i (y : Int) (M' 124 y)) → J 19 [some (vR 122), some (vR pl), some (vI d), some (vI mi), some (vI al), some (vI x), z6, z7] [] M' := by
      refine dn ?_ ?_
      · intro x al M' z6 z7 hx hal h1 h2 h3 h4
        have sbn := sb n (Nat.le_refl _)
        exact R_X1_mostPounds_19 R (an o122 (bt (show M' 122 0 ≤ x by rw [h2]; omega) (R_X1_mostPounds_114 R (last M' al hal h1 h4 0 (Nat.zero_le _) _ _ _ (by omega) (fun y g1 g2 => by omega)))))
      · intro i hi ih x al M' z6 z7 hx hal h1 h2 h3 h4
        have hxn : x.toNat = i := by omega
        have hp2 : PlanRel M' pl Ab := hp.kept (fun u v q1 q2 => h1 u v (by omega))
        have wi := wb i hi
        have si := sb i (by omega)
        have si1 := sb (i + 1) (by omega)
        rw [sumN] at si1
        have li := Lt i hi
        have m3 : M' (122 + 1) x.toNat = (L i : Int) := by rw [hxn]; exact h3 i hi
        have mw : M' (pl + 4) (L i) = Ab 1 (L i) := (hp2.2.2.2.2.2.2.1 _ li).2.1
        have inner : ∀ j : Nat, j ≤ (Ab 1 (L i)).toNat → ∀ (y : Int) (M2 : Mem), y = al + 1 + (j : Int) → (∀ u v, u ≠ 124 → M2 u v = M' u v) → (∀ v : Nat, (v : Int) ≤ al → M2 124 v = M' 124 v) → (∀ v : Nat, al < (v : Int) → (v : Int) < y → M2 124 v = 1000000) → J 48 [some (vR 122), some (vR pl), some (vI d), some (vI mi), some (vI al), some (vI x), some (vI (Ab 1 (L i))), some (vI y)] [] M2 := by
          have ea : f_add al (Ab 1 (L i)) = al + Ab 1 (L i) := w1 (by omega) (by omega) rfl
          refine dn ?_ ?_
          · intro y M2 hy g1 g2 g3
            have n3 : M2 (122 + 1) x.toNat = (L i : Int) := by rw [g1 _ _ (by decide)]; exact m3
            have so1 : ∀ v : Nat, (v : Int) ≤ al + Ab 1 (L i) → SoP Ab L i (v : Int) (M2 124 v) := by
              intro v hv
              by_cases q : (v : Int) ≤ al
              · rw [g2 v q]; exact h4 v q
              · refine Or.inl ⟨g3 v (by omega) (by omega), fun s hs => ?_⟩
                have := wle s i (by omega)
                omega
            refine R_X1_mostPounds_48 R (bt (show f_add al (Ab 1 (L i)) < y by rw [ea]; omega) (R_X1_mostPounds_81 R ?_))
            show wpl J Q _ _ [vI (min (f_add al (Ab 1 (L i))) 1386)] M2
            rw [ea, show min (al + Ab 1 (L i)) 1386 = al + Ab 1 (L i) by omega]
            clear ea
            refine an o122 (an (ak_of sh123 (by omega) (by omega)) ?_)
            rw [n3]
            refine an o122 ⟨Ab, rfl, ⟨hk, hp2.kept (fun u v q1 q2 => g1 u v (by omega)), ho⟩, ⟨by omega, by omega⟩, ⟨by omega, by omega⟩, fun v hv => sob i _ _ (by omega) (so1 v (by omega)), fun M3 k1 k2 => ?_⟩
            refine ih _ _ _ _ _ (wn hx (by omega)) (by rw [sumN, hal]) (fun u v hu => ?_) ?_ (fun j hj => ?_) (fun v hv => ?_)
            · rw [k1 _ _ (by omega), g1 _ _ (by omega)]; exact h1 u v hu
            · rw [k1 _ _ (by omega), g1 _ _ (by omega)]; exact h2
            · rw [k1 _ _ (by omega), g1 _ _ (by omega)]; exact h3 j hj
            · have k3 := k2 v (by omega)
              rw [Int.toNat_natCast] at k3
              by_cases q : Ab 1 (L i) ≤ (v : Int)
              · have s2 := so1 (v - (Ab 1 (L i)).toNat) (by omega)
                rw [show ((v - (Ab 1 (L i)).toNat : Nat) : Int) = (v : Int) - Ab 1 (L i) by omega] at s2
                refine so_step (fun s hs => by have := tnb s i (by omega); omega) (by have := (ho.2.2.2.2.2.2.1 _ li).2.2.2; omega) (pass_bd ho li).2 (so1 v hv) s2 ?_
                rw [k3]
                by_cases e : M2 124 (v - (Ab 1 (L i)).toNat) = 1000000
                · rw [if_pos e, if_neg (fun z => z.2 e)]
                · rw [if_neg e, if_pos ⟨q, e⟩]
              · have s2 : SoP Ab L i ((v : Int) - Ab 1 (L i)) 1000000 := Or.inl ⟨rfl, fun s hs => by have := wle s i (by omega); omega⟩
                refine so_step (fun s hs => by have := tnb s i (by omega); omega) (by have := (ho.2.2.2.2.2.2.1 _ li).2.2.2; omega) (pass_bd ho li).2 (so1 v hv) s2 ?_
                rw [k3, if_pos rfl, if_neg (fun z => q z.1)]
          · intro j hj ihj y M2 hy g1 g2 g3
            refine R_X1_mostPounds_48 R (bf (show ¬ f_add al (Ab 1 (L i)) < y by rw [ea]; omega) (bf (show ¬ (1386 : Int) < y by omega) (an o122 (an (ak_of sh124 (by omega) (by omega)) (ihj _ _ (w1 (by omega) (by omega) (by omega)) (fun u v hu => ?_) (fun v hv => ?_) (fun v hv hv2 => ?_))))))
            · rw [up_ne (by omega)]; exact g1 u v hu
            · rw [up_ne (by omega)]; exact g2 v hv
            · have ex : w32 (y + 1) = y + 1 := w1 (by omega) (by omega) rfl
              have hv2 : (v : Int) < w32 (y + 1) := hv2
              rw [ex] at hv2
              clear ex
              by_cases e : (v : Int) = y
              · rw [show y.toNat = v by omega]; exact up_eq
              · rw [up_ne (by omega)]; exact g3 v hv (by omega)
        refine R_X1_mostPounds_19 R (an o122 (bf (show ¬ M' 122 0 ≤ x by rw [h2]; omega) (an (pl_ob hk) (an o122 (an (ak_of sh123 (by omega) (by omega)) ?_)))))
        rw [m3]
        refine an (ak_of (pl_4 hk) (by omega) (by omega)) ?_
        rw [Int.toNat_natCast, mw]
        exact inner 0 (Nat.zero_le _) _ M' (w1 (by omega) (by omega) (by omega)) (fun _ _ _ => rfl) (fun _ _ => rfl) (fun v g1 g2 => by
          have ex : f_add al 1 = al + 1 := w1 (by omega) (by omega) rfl
          have g2 : (v : Int) < f_add al 1 := g2
          rw [ex] at g2
          clear ex
          omega)
    refine key 0 (Nat.zero_le _) _ _ _ _ _ rfl rfl (fun u v hu => ?_) ?_ (fun j hj => ?_) (fun y hy => ?_)
    · rw [up_ne (by omega)]; exact f1 u v (by omega) (by omega)
    · rw [up_ne (by omega)]; exact f4
    · rw [up_ne (by omega)]; exact f5 j hj
    · have y0 : y = 0 := by omega
      subst y0
      rw [show Int.toNat 0 = 0 from rfl, up_eq]
      exact Or.inr ⟨⟨0, Nat.two_pow_pos _, wS_0 _ _, rfl⟩, fun s hs _ => Int.le_refl _⟩

  · exact h.elim