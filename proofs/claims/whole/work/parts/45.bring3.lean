def tkF (M : Mem) (w st ps : Int) (y : Nat) : Int := if w ≤ (y : Int) ∧ M 124 (y - w.toNat) ≠ 1000000 then min (M 124 y) (max (M 124 (y - w.toNat)) st + ps) else M 124 y
theorem P_X1_takeIn {J : JT} {Q : QT} (R : R_X1_takeIn J Q) {as : List Vl} {M : Mem} (h : nf G_X1_takeIn as M Q) : (enL as).length ≤ 7 ∧ J 0 (padL 7 (enL as)) [] M := by
  unfold nf G_X1_takeIn at h
  split at h
  · rename_i k pl t al
    obtain ⟨Ab, rfl, ⟨hk, hp, ho⟩, ⟨t0, t1⟩, ⟨a0, a1⟩, hb, hQ⟩ := h
    have hl := pl_117 hk
    obtain ⟨n1, n2⟩ := nT_le ho
    have ht : t.toNat < nT Ab := by omega
    obtain ⟨-, e2, -, e4⟩ := hp.2.2.2.2.2.2.1 _ ht
    obtain ⟨-, w1b, -, s1b⟩ := ho.2.2.2.2.2.2.1 _ ht
    have pb := pass_bd ho ht
    generalize hw : Ab 1 t.toNat = w at hQ w1b e2
    generalize hst : Ab 3 t.toNat = st at hQ s1b e4
    have key : ∀ j : Nat, j ≤ (al + 1 - w).toNat → ∀ (x : Int) (M' : Mem) (z : Option Vl), x = al - (j : Int) → (∀ u v, u ≠ 124 → M' u v = M u v) → (∀ y : Nat, y ≤ al.toNat → M' 124 y = if x < (y : Int) then tkF M w st (passF Ab t.toNat) y else M 124 y) → J 11 [some (vR 122), some (vR pl), some (vI t), some (vI al), some (vI w), some (vI x), z] [] M' := by
      refine dn ?_ ?_
      · intro x M' z hx h1 h2
        refine R_X1_takeIn_11 R (bt (show x < w by omega) (R_X1_takeIn_85 R (hQ M' h1 (fun y hy => ?_))))
        rw [h2 y hy]
        by_cases q : x < (y : Int)
        · rw [if_pos q]; rfl
        · rw [if_neg q, if_neg (by omega)]
      · intro j hj ih x M' z hx h1 h2
        have hp2 : PlanRel M' pl Ab := hp.kept (fun u v q1 q2 => h1 u v (by omega))
        have es : f_sub x w = x - w := w1 (by omega) (by omega) rfl
        have xw : (f_sub x w).toNat = x.toNat - w.toNat := by rw [es]; omega
        have ak1 : AK 1 124 (f_sub x w) := by rw [es]; exact ak_of sh124 (by omega) (by omega)
        clear es
        have m1 : M' (122 + 2) (f_sub x w).toNat = M 124 (x.toNat - w.toNat) := by
          rw [xw]
          refine (h2 _ (by omega)).trans ?_
          rw [if_neg (by omega)]
        have m2 : M' (122 + 2) x.toNat = M 124 x.toNat := by
          refine (h2 _ (by omega)).trans ?_
          rw [if_neg (by omega)]
        have b1 := hb (x.toNat - w.toNat) (by omega)
        have b2 := hb x.toNat (by omega)
        have st2 : M' (pl + 6) t.toNat = st := by rw [← hst]; exact (hp2.2.2.2.2.2.2.1 _ ht).2.2.2
        refine R_X1_takeIn_11 R (bf (show ¬ x < w by omega) (an o122 (an ak1 ?_)))
        rw [m1]
        refine br (fun g => R_X1_takeIn_79 R (ih _ _ _ (w1 (by omega) (by omega) (by omega)) h1 (fun y hy => ?_))) (fun g => an o122 (an ak1 (an (pl_ob hk) (an (ak_of (pl_6 hk) (by omega) (by omega)) ?_))))
        · have g : M 124 (x.toNat - w.toNat) = 1000000 := g
          rw [h2 y hy]
          by_cases q : x < (y : Int)
          · rw [if_pos q, if_pos (by show w32 (x + -1) < (y : Int); rw [w1 (x := x + -1) (y := x - 1) (by omega) (by omega) (by omega)]; omega)]
          · rw [if_neg q]
            by_cases e : x = (y : Int)
            · rw [if_pos (by show w32 (x + -1) < (y : Int); rw [w1 (x := x + -1) (y := x - 1) (by omega) (by omega) (by omega)]; omega)]
              unfold tkF
              rw [if_neg]
              rintro ⟨z1, z2⟩
              rw [show y = x.toNat by omega] at z2
              exact z2 g
            · rw [if_neg (by show ¬ w32 (x + -1) < (y : Int); rw [w1 (x := x + -1) (y := x - 1) (by omega) (by omega) (by omega)]; omega)]
        · have g : ¬ M 124 (x.toNat - w.toNat) = 1000000 := g
          rw [m1, st2]
          refine an (pl_ob hk) ⟨Ab, ⟨hk, hp2, ho⟩, ⟨t0, t1⟩, an o122 (an o122 (an (ak_of sh124 (by omega) (by omega)) ?_))⟩
          have ef : f_add (max (M 124 (x.toNat - w.toNat)) st) (passF Ab t.toNat) = max (M 124 (x.toNat - w.toNat)) st + passF Ab t.toNat := w1 (by omega) (by omega) rfl
          rw [ef, m2]
          clear ef
          refine an (ak_of sh124 (by omega) (by omega)) (R_X1_takeIn_79 R (ih _ _ _ (w1 (by omega) (by omega) (by omega)) (fun u v hu => by rw [up_ne (by omega)]; exact h1 u v hu) (fun y hy => ?_)))
          have ex : w32 (x + -1) = x - 1 := w1 (by omega) (by omega) (by omega)
          show up M' (122 + 2) x.toNat (min (M 124 x.toNat) (max (M 124 (x.toNat - w.toNat)) st + passF Ab t.toNat)) 124 y = if w32 (x + -1) < (y : Int) then _ else _
          rw [ex]
          clear ex
          by_cases e : x = (y : Int)
          · have e3 : x.toNat = y := by omega
            rw [if_pos (by omega)]
            unfold tkF
            rw [if_pos ⟨by omega, by rw [← e3]; exact g⟩, ← e3]
            exact up_eq
          · rw [up_ne (by omega), h2 y hy]
            by_cases q : x < (y : Int)
            · rw [if_pos q, if_pos (by omega)]
            · rw [if_neg q, if_neg (by omega)]
    refine ⟨Nat.le_of_ble_eq_true rfl, R_X1_takeIn_0 R (an (pl_ob hk) (an (ak_of (pl_4 hk) (by omega) (by omega)) ?_))⟩
    have k0 := key 0 (Nat.zero_le _) al M none (by omega) (fun _ _ _ => rfl) (fun y hy => by rw [if_neg (by omega)])
    rw [← e2] at k0
    exact k0

  · exact h.elim