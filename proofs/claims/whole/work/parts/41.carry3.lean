theorem dv4 {x : Int} (h0 : 0 ≤ x) (h1 : x < 100000) : w32 (x.tdiv 4096) = x / 4096 := by
  rw [Int.tdiv_eq_ediv_of_nonneg h0]
  exact w1 (by omega) (by omega) rfl
theorem md4 {x : Int} (h0 : 0 ≤ x) (h1 : x < 100000) : w32 (x.tmod 4096) = x % 4096 := by
  rw [Int.tmod_eq_emod_of_nonneg h0]
  exact w1 (by omega) (by omega) rfl
theorem cl4 {y z w : Int} (h0 : 0 ≤ y) (h1 : y < 1000) (h2 : 0 ≤ z) (h3 : z < 5000) (h4 : 0 ≤ w) (h5 : w ≤ 99) : f_add (f_add (f_mul y 4096) z) w = y * 4096 + z + w := by
  unfold f_add f_mul
  rw [w1 (x := y * 4096) (y := y * 4096) (by omega) (by omega) rfl, w1 (x := y * 4096 + z) (y := y * 4096 + z) (by omega) (by omega) rfl]
  exact w1 (by omega) (by omega) rfl
theorem P_X2_needWith {J : JT} {Q : QT} (R : R_X2_needWith J Q) {as : List Vl} {M : Mem} (h : nf G_X2_needWith as M Q) : (enL as).length ≤ 6 ∧ J 0 (padL 6 (enL as)) [] M := by
  unfold nf G_X2_needWith at h
  split at h
  · rename_i k be w
    obtain ⟨caps, K, ⟨rfl, hK, k10, b0, bb, w0, w99⟩, hc, hQ⟩ := h
    by_cases q : be = 1000000
    · exact ⟨Nat.le_of_ble_eq_true rfl, R_X2_needWith_0 R (bf (show ¬ be ≠ 1000000 by omega) (hQ _ (Or.inl ⟨q, rfl⟩)))⟩
    · have b1 : be < 100000 := by omega
      have key : ∀ d : Nat, d ≤ K - (be / 4096).toNat → ∀ (y z l3 : Int), y = (((be / 4096).toNat + d : Nat) : Int) → z = ldN (be / 4096).toNat (be % 4096) ((be / 4096).toNat + d) → (∀ c, (be / 4096).toNat ≤ c → c < (be / 4096).toNat + d → ¬ ldN (be / 4096).toNat (be % 4096) c + w ≤ caps c) → J 25 [some (vR 117), some (vI be), some (vI w), some (vI l3), some (vI z), some (vI y)] [] M := by
        refine dn ?_ ?_
        · intro y z l3 hy hz h1
          exact R_X2_needWith_25 R (an o117 (bt (show M 117 2 ≤ y by rw [hK]; omega) (R_X2_needWith_69 R (hQ _ (Or.inr ⟨q, Or.inl ⟨rfl, fun c g1 g2 => h1 c g1 (by omega)⟩⟩)))))
        · intro d hd ih y z l3 hy hz h1
          have yn : y.toNat = (be / 4096).toNat + d := by omega
          have zb : 0 ≤ z ∧ z < 5000 := by rw [hz]; unfold ldN; split <;> omega
          refine R_X2_needWith_25 R (an o117 (bf (show ¬ M 117 2 ≤ y by rw [hK]; omega) (an o117 (an (ak_of sh119 (by omega) (by omega)) ?_))))
          have em : M (117 + 2) y.toNat = caps ((be / 4096).toNat + d) := by rw [yn]; exact hc _ (by omega)
          have ea : f_add z w = z + w := w1 (by omega) (by omega) rfl
          rw [em]
          refine br (fun g => R_X2_needWith_60 R (ih _ _ _ (wn (n := (be / 4096).toNat + d) hy (by omega)) ?_ (fun c g1 g2 => ?_))) (fun g => ?_)
          · unfold ldN; rw [if_neg (by omega)]
          · have g : caps ((be / 4096).toNat + d) < f_add z w := g
            rw [ea] at g
            by_cases e : c = (be / 4096).toNat + d
            · rw [e, ← hz]; omega
            · exact h1 c g1 (by omega)
          · have g : ¬ caps ((be / 4096).toNat + d) < f_add z w := g
            rw [ea] at g
            have r := hQ (y * 4096 + z + w) (Or.inr ⟨q, Or.inr ⟨(be / 4096).toNat + d, by omega, by omega, by rw [← hz]; omega, by rw [← hz, ← hy], h1⟩⟩)
            rw [← cl4 (by omega) (by omega) zb.1 zb.2 w0 w99] at r
            exact r
      refine ⟨Nat.le_of_ble_eq_true rfl, R_X2_needWith_0 R (bt (show be ≠ 1000000 from q) (R_X2_needWith_9 R (an (by decide) (an (by decide) ?_))))⟩
      have k0 := key 0 (Nat.zero_le _) (be / 4096) (be % 4096) (be / 4096) (by omega) (by unfold ldN; rw [if_pos (by omega)]) (fun c g1 g2 => by omega)
      rw [← dv4 b0 b1, ← md4 b0 b1] at k0
      exact k0
  · exact h.elim
theorem xor_half (a b : Nat) : (a ^^^ b) / 2 = a / 2 ^^^ b / 2 := by
  refine Nat.eq_of_testBit_eq (fun i => ?_)
  rw [← Nat.testBit_succ, Nat.testBit_xor, Nat.testBit_xor, Nat.testBit_succ, Nat.testBit_succ]
theorem xor_clr : ∀ {i s : Nat}, s.testBit i = true → s ^^^ 2 ^ i < s
  | 0, s, h => by
    have e1 : (s ^^^ 2 ^ 0) / 2 = s / 2 := by rw [xor_half]; exact Nat.xor_zero _
    have e2 : (s ^^^ 2 ^ 0).testBit 0 = false := by rw [xbit, h]; rfl
    rw [Nat.testBit_zero] at e2 h
    have h1 := of_decide_eq_true h
    have h2 := of_decide_eq_false e2
    omega
  | i + 1, s, h => by
    rw [Nat.testBit_succ] at h
    have ih := xor_clr h
    have e1 : (s ^^^ 2 ^ (i + 1)) / 2 = s / 2 ^^^ 2 ^ i := by rw [xor_half, Nat.pow_succ, Nat.mul_div_cancel _ (by decide)]
    omega
theorem nd_bd {w caps : Nat → Int} {n K s : Nat} {v : Int} (hK : K ≤ 10) (h : NdOK w caps n K s v) : 0 ≤ v ∧ (v = 1000000 ∨ v < 100000) := by
  rcases h with ⟨z, -⟩ | ⟨c, L, h1, h2, h3, h4, -⟩ <;> omega
theorem P_X2_needOf {J : JT} {Q : QT} (R : R_X2_needOf J Q) {as : List Vl} {M : Mem} (h : nf G_X2_needOf as M Q) : (enL as).length ≤ 4 ∧ J 0 (padL 4 (enL as)) [] M := by
  unfold nf G_X2_needOf at h
  split at h
  · rename_i k s
    obtain ⟨w, caps, n, K, ⟨rfl, s0, s1⟩, hcr, hnd, hQ⟩ := h
    obtain ⟨c0, c2, hw, k10, hcp, c8, c9⟩ := hcr
    obtain ⟨r, rfl⟩ : ∃ r : Nat, s = (r : Int) := ⟨s.toNat, by omega⟩
    have n10 := p10 hw.1
    have nd : ∀ i, r.testBit i = true → NdOK w caps n K (r ^^^ 2 ^ i) (M 121 (r ^^^ 2 ^ i)) := fun i hi => hnd _ (xor_clr hi)
    have hw1 := hw.1
    have key : ∀ i, i ≤ n → ∀ (x best : Int), x = (i : Int) → (best = 1000000 ∨ ∃ j, r.testBit j = true ∧ NW caps K (M 121 (r ^^^ 2 ^ j)) (w j) best) → (∀ j, j < i → r.testBit j = true → ∃ v, NW caps K (M 121 (r ^^^ 2 ^ j)) (w j) v ∧ best ≤ v) → J 5 [some (vR 117), some (vI (r : Int)), some (vI best), some (vI x)] [] M := by
      refine dn ?_ ?_
      · intro x best hx h1 h2
        refine R_X2_needOf_5 R (an o117 (bt (show M 117 0 ≤ x by rw [c0]; omega) (R_X2_needOf_52 R (hQ _ ?_))))
        exact nd_step hw (fun c => (hcp c).1) k10 (by omega) (by omega) nd (fun i hi => h2 i (bit_lt (by omega) hi) hi) h1
      · intro i hi ih x best hx h1 h2
        have hxn : x.toNat = i := by omega
        have ex : Unit → xorI (r : Int) (shlI 1 x) = ((r ^^^ 2 ^ i : Nat) : Int) := fun _ => by
          rw [hx, shl1 _ (by omega)]
          have := pw_lt (show i < 10 by omega)
          exact xorI_n (by omega) (by omega)
        refine R_X2_needOf_5 R (an o117 (bf (show ¬ M 117 0 ≤ x by rw [c0]; omega) (an ⟨by omega, by omega, by omega, by omega⟩ (br (fun g => bf (by decide) ?_) (fun g => bt rfl (R_X2_needOf_46 R (ih _ _ (wn hx (by omega)) h1 (fun j hj hb => ?_))))))))
        · have g : r.testBit i = true := by rw [hx] at g; exact g
          have cl := xor_clr g
          have b := nd_bd k10 (nd i g)
          have wi := hw.2 i hi
          have em : M (117 + 4) (xorI (r : Int) (shlI 1 x)).toNat = M 121 (r ^^^ 2 ^ i) := by rw [ex (), Int.toNat_natCast]
          have ew : M (117 + 1) x.toNat = w i := by rw [hxn]; exact c8 i hi
          refine an o117 (an (show AK 1 121 (xorI (r : Int) (shlI 1 x)) by rw [ex ()]; exact ak_of sh121 (by omega) (by omega)) (an o117 (an (ak_of sh118 (by omega) (by omega)) ?_)))
          rw [em, ew]
          refine an o117 ⟨caps, K, ⟨rfl, c2, k10, b.1, b.2, by omega, by omega⟩, c9, fun v hv => R_X2_needOf_46 R (ih _ _ (wn hx (by omega)) ?_ (fun j hj hb => ?_))⟩
          · rcases (show min best v = best ∨ min best v = v by omega) with e | e
            · rw [e]; exact h1
            · rw [e]; exact Or.inr ⟨i, g, hv⟩
          · by_cases e : j = i
            · subst e
              exact ⟨v, hv, Int.min_le_right _ _⟩
            · obtain ⟨v2, g1, g2⟩ := h2 j (by omega) hb
              exact ⟨v2, g1, Int.le_trans (Int.min_le_left _ _) g2⟩
        · by_cases e : j = i
          · subst e
            have g : ¬ r.testBit j = true := by rw [hx] at g; exact g
            exact absurd hb g
          · exact h2 j (by omega) hb
    exact ⟨Nat.le_of_ble_eq_true rfl, R_X2_needOf_0 R (key 0 (Nat.zero_le _) _ _ rfl (Or.inl rfl) (fun j hj => by omega))⟩

  · exact h.elim