theorem fam {x s w : Int} (h0 : -200000 ≤ x) (h1 : x ≤ 200000) (hs : s = 1 ∨ s = -1 ∨ s = 0) (h2 : -99 ≤ w) (h3 : w ≤ 99) : f_add x (f_mul s w) = x + s * w := by
  have e : f_mul s w = s * w := by rcases hs with rfl | rfl | rfl <;> exact w1 (by omega) (by omega) rfl
  rw [e]
  rcases hs with rfl | rfl | rfl <;> exact w1 (by omega) (by omega) rfl
theorem fch {s w : Int} (hs : s = 1 ∨ s = -1 ∨ s = 0) (h2 : 0 ≤ w) (h3 : w ≤ 99) : f_mul s (f_sub (w32 (w.tdiv 2)) w) = s * (w / 2 - w) := by
  have e6 : w32 (w.tdiv 2) = w / 2 := by
    rw [Int.tdiv_eq_ediv_of_nonneg (by omega)]
    exact w1 (by omega) (by omega) rfl
  have e7 : f_sub (w / 2) w = w / 2 - w := w1 (by omega) (by omega) rfl
  rw [e6, e7]
  rcases hs with rfl | rfl | rfl <;> exact w1 (by omega) (by omega) rfl
theorem ix14 {i j : Nat} (hi : i < 9) (hj : j < 14) : f_add (f_mul (i : Int) 14) (j : Int) = ((14 * i + j : Nat) : Int) := by
  unfold f_add f_mul
  rw [w1 (x := (i : Int) * 14) (y := (i : Int) * 14) (by omega) (by omega) rfl]
  exact w1 (by omega) (by omega) (by omega)
theorem P_X4_weighAll {J : JT} {Q : QT} (R : R_X4_weighAll J Q) {as : List Vl} {M : Mem} (h : nf G_X4_weighAll as M Q) : (enL as).length ≤ 6 ∧ J 0 (padL 6 (enL as)) [] M := by
  unfold nf G_X4_weighAll at h
  split at h
  · rename_i k pl ba
    obtain ⟨Ab, ⟨rfl, rfl⟩, ⟨hk, hp, ho⟩, hb, hv, hQ⟩ := h
    have hl := pl_lt hk
    obtain ⟨n1, n2⟩ := nT_le ho
    have e6 : ((nV Ab : Nat) : Int) = Ab 10 6 := by have := hv.1; unfold nV; omega
    have v9 : nV Ab ≤ 9 := by have := hv.1; omega
    have hpk : ∀ M' : Mem, (∀ u v, u ≠ 130 → u ≠ 131 → M' u v = M u v) → PlanRel M' pl Ab ∧ BalRel M' 35 Ab 15 (Ab 10 6) := fun M' h1 => ⟨hp.kept (fun u v q1 q2 => h1 u v (by omega) (by omega)), hb.kept (fun u v q1 q2 => h1 u v (by omega) (by omega))⟩
    have key : ∀ i, i ≤ nV Ab → ∀ (x : Int) (M' : Mem) (z4 z5 : Option Vl), x = (i : Int) → (∀ u v, u ≠ 130 → u ≠ 131 → M' u v = M u v) → (∀ v, v < i → M' 130 v = ovF Ab v 0) → (∀ v t, v < i → t < nT Ab → M' 131 (14 * v + t) = sg Ab v t * (Ab 1 t / 2 - Ab 1 t)) → J 2 [some (vR 129), some (vR pl), some (vR 35), some (vI x), z4, z5] [] M' := by
      refine dn ?_ ?_
      · intro x M' z4 z5 hx h1 h2 h3
        have hb2 := (hpk M' h1).2
        exact R_X4_weighAll_2 R (an o35 (bt (show M' 35 0 ≤ x by rw [hb2.1]; omega) (R_X4_weighAll_147 R (hQ M' h1 h2 h3))))
      · intro i hi ih x M' z4 z5 hx h1 h2 h3
        obtain ⟨hp2, hb2⟩ := hpk M' h1
        have hxn : x.toNat = i := by omega
        have vo := hv.2 i hi
        have m17 : -9999 ≤ Ab 17 i ∧ Ab 17 i ≤ 9999 := vo.2.2
        have inner : ∀ j, j ≤ nT Ab → ∀ (y : Int) (M2 : Mem) (z5 : Option Vl), y = (j : Int) → (∀ u v, u ≠ 130 → u ≠ 131 → M2 u v = M u v) → (∀ v, v < i → M2 130 v = ovF Ab v 0) → (∀ v t, v < i → t < nT Ab → M2 131 (14 * v + t) = sg Ab v t * (Ab 1 t / 2 - Ab 1 t)) → M2 130 i = sumN (fun t => sg Ab i t * Ab 1 t) j - Ab 17 i → (∀ t, t < j → M2 131 (14 * i + t) = sg Ab i t * (Ab 1 t / 2 - Ab 1 t)) → J 26 [some (vR 129), some (vR pl), some (vR 35), some (vI x), some (vI y), z5] [] M2 := by
          refine dn ?_ ?_
          · intro y M2 z5 hy g1 g2 g3 g4 g5
            have hp3 := (hpk M2 g1).1
            refine R_X4_weighAll_26 R (an (pl_ob hk) (bt (show M2 pl 3 ≤ y by rw [hp3.2.1]; omega) (R_X4_weighAll_141 R (ih _ _ _ _ (wn hx (by omega)) g1 (fun v hv2 => ?_) (fun v t hv2 ht => ?_)))))
            · by_cases e : v = i
              · subst e; rw [g4, ov_0]
              · exact g2 v (by omega)
            · by_cases e : v = i
              · subst e; exact g5 t ht
              · exact g3 v t (by omega) ht
          · intro j hj ihj y M2 z5 hy g1 g2 g3 g4 g5
            have hyn : y.toNat = j := by omega
            have hxn : x.toNat = i := by omega
            obtain ⟨hp3, hb3⟩ := hpk M2 g1
            obtain ⟨t1, t2, -, -⟩ := hp3.2.2.2.2.2.2.1 j hj
            obtain ⟨c1, c2, c3⟩ := hb3.2 i hi
            have oj := ho.2.2.2.2.2.2.1 j hj
            have np := (nP_le ho).1
            have n10 := ho.1
            have bdj := ov_bd ho (f := fun t => sg Ab i t * Ab 1 t) (fun t ht => by have := (ho.2.2.2.2.2.2.1 t ht).2.1; exact sgw i t (by omega) (by omega)) (n := j) (by omega)
            have bj := sgw (Ab := Ab) i j (x := Ab 1 j) (by omega) (by omega)
            have at82 : J 82 [some (vR 129), some (vR pl), some (vR 35), some (vI x), some (vI y), z5] [vI (sg Ab i j)] M2 := by
              refine R_X4_weighAll_82 R (an o129 (an (ak_of sh130 (by omega) (by omega)) (an (pl_ob hk) (an (ak_of (pl_4 hk) (by omega) (by omega)) (an (ak_of sh130 (by omega) (by omega)) ?_)))))
              generalize hM3 : up M2 (129 + 1) x.toNat (f_add (M2 (129 + 1) x.toNat) (f_mul (sg Ab i j) (M2 (pl + 4) y.toNat))) = M3
              have k3 : ∀ u v, ¬ (u = 130 ∧ v = i) → M3 u v = M2 u v := fun u v hu => by rw [← hM3, hxn, up_ne (by omega)]
              have k4 : Unit → M3 130 i = f_add (M2 130 i) (f_mul (sg Ab i j) (Ab 1 j)) := fun _ => by rw [← hM3, hxn, hyn, t2]; exact up_eq
              have e4 : M3 (pl + 4) y.toNat = Ab 1 j := by rw [hyn, k3 _ _ (by omega)]; exact t2
              have ie : Unit → (f_add (f_mul x 14) y).toNat = 14 * i + j := fun _ => by rw [hx, hy, ix14 (by omega) (by omega), Int.toNat_natCast]
              refine an o129 (an (pl_ob hk) (an (ak_of (pl_4 hk) (by omega) (by omega)) (an (by decide) (an (pl_ob hk) (an (ak_of (pl_4 hk) (by omega) (by omega)) (an (show AK 1 131 (f_add (f_mul x 14) y) by rw [hx, hy, ix14 (by omega) (by omega)]; exact ak_of sh131 (by omega) (by omega)) ?_))))))
              refine ihj _ _ _ (wn hy (by omega)) (fun u v q1 q2 => ?_) (fun v hv2 => ?_) (fun v t hv2 ht => ?_) ?_ (fun t ht => ?_)
              · rw [ie (), up_ne (by omega), k3 _ _ (by omega)]; exact g1 u v q1 q2
              · rw [ie (), up_ne (by omega), k3 _ _ (by omega)]; exact g2 v hv2
              · rw [ie (), up_ne (by omega), k3 _ _ (by omega)]; exact g3 v t hv2 ht
              · rw [ie (), up_ne (by omega), k4 (), g4, sumN, fam (by omega) (by omega) (sg_bd Ab i j) (by omega) (by omega)]
                omega
              · by_cases e : t = j
                · subst e
                  rw [ie (), up_eq, e4]
                  exact fch (sg_bd Ab i t) (by omega) (by omega)
                · rw [ie (), up_ne (by omega), k3 _ _ (by omega)]
                  exact g5 t (by omega)
            have c1' : M2 (35 + 1) x.toNat = Ab 15 i := by rw [hxn]; exact c1
            have c2' : M2 (35 + 2) x.toNat = Ab 16 i := by rw [hxn]; exact c2
            have t1' : M2 (pl + 3) y.toNat = Ab 0 j := by rw [hyn]; exact t1
            have pb := pro_lt ho vo.1.2
            have cb := pro_lt ho vo.2.1.2
            have c0 : 0 ≤ Ab 16 i := vo.2.1.1
            refine R_X4_weighAll_26 R (an (pl_ob hk) (bf (show ¬ M2 pl 3 ≤ y by rw [hp3.2.1]; omega) (an (pl_ob hk) (an (ak_of (pl_3 hk) (by omega) (by omega)) (an o35 (an (ak_of (ba_n (Or.inl rfl) (j := 1) (by decide) (by decide)) (by omega) (by omega)) ?_))))))
            rw [c1', t1']
            refine an ⟨oj.1.1, by omega, vo.1.1, pb⟩ (br (fun q => bf (by decide) ?_) (fun q => bt rfl (R_X4_weighAll_58 R (an (pl_ob hk) (an (ak_of (pl_3 hk) (by omega) (by omega)) (an o35 (an (ak_of (ba_n (Or.inl rfl) (j := 2) (by decide) (by decide)) (by omega) (by omega)) ?_)))))))
            · have q : bitB (Ab 15 i) (Ab 0 j) = true := q
              have e9 : sg Ab i j = 1 := by unfold sg; rw [if_pos q]
              rw [e9] at at82
              exact at82
            · have q : ¬ bitB (Ab 15 i) (Ab 0 j) = true := q
              rw [c2', t1']
              refine an ⟨oj.1.1, by omega, c0, cb⟩ (br (fun q2 => bf (by decide) ?_) (fun q2 => bt rfl (R_X4_weighAll_81 R ?_)))
              · have q2 : bitB (Ab 16 i) (Ab 0 j) = true := q2
                have e9 : sg Ab i j = -1 := by unfold sg; rw [if_neg q, if_pos q2]
                rw [e9] at at82
                exact at82
              · have q2 : ¬ bitB (Ab 16 i) (Ab 0 j) = true := q2
                have e9 : sg Ab i j = 0 := by unfold sg; rw [if_neg q, if_neg q2]
                rw [e9] at at82
                exact at82
        have c3 : M' (35 + 3) x.toNat = Ab 17 i := by rw [hxn]; exact (hb2.2 i hi).2.2
        refine R_X4_weighAll_2 R (an o35 (bf (show ¬ M' 35 0 ≤ x by rw [hb2.1]; omega) (an o129 (an o35 (an (ak_of (ba_n (Or.inl rfl) (j := 3) (by decide) (by decide)) (by omega) (by omega)) (an (ak_of sh130 (by omega) (by omega)) ?_))))))
        rw [c3, hxn]
        refine inner 0 (Nat.zero_le _) _ _ _ rfl (fun u v q1 q2 => ?_) (fun v hv2 => ?_) (fun v t hv2 ht => ?_) ?_ (fun t ht => by omega)
        · rw [up_ne (by omega)]; exact h1 u v q1 q2
        · rw [up_ne (by omega)]; exact h2 v hv2
        · rw [up_ne (by omega)]; exact h3 v t hv2 ht
        · rw [up_eq, sumN]
          exact w1 (by omega) (by omega) (by omega)
    exact ⟨Nat.le_of_ble_eq_true rfl, R_X4_weighAll_0 R (key 0 (Nat.zero_le _) _ _ _ _ rfl (fun _ _ _ _ => rfl) (fun v hv2 => by omega) (fun v t hv2 => by omega))⟩

  · exact h.elim