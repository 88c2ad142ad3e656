theorem dg_min {v d : Int} (h0 : 0 ≤ v) (h1 : 0 ≤ d) (h2 : d ≤ 9) : min (10 * min v 1000000 + d) 1000000 = min (10 * v + d) 1000000 := by omega
theorem dgV_nn {B : Nat → Int} {t : Nat} : ∀ {n : Nat}, (∀ i, t ≤ i → i < t + n → cDg (B i) = true) → 0 ≤ dgV B t n
  | 0, _ => by simp [dgV]
  | n + 1, h => by
    have ih := dgV_nn (n := n) (fun i h1 h2 => h i h1 (by omega))
    have := h (t + n) (by omega) (by omega)
    unfold cDg at this
    simp only [Bool.and_eq_true, decide_eq_true_eq] at this
    rw [dgV]
    omega
theorem f10 {y b : Int} (h0 : 0 ≤ y) (h1 : y ≤ 1000000) (h2 : 48 ≤ b) (h3 : b ≤ 57) : f_sub (f_add (f_mul y 10) b) 48 = 10 * y + (b - 48) := by
  unfold f_sub f_add f_mul
  rw [w1 (x := y * 10) (y := 10 * y) (by omega) (by omega) (by omega), w1 (x := 10 * y + b) (y := 10 * y + b) (by omega) (by omega) rfl]
  exact w1 (by omega) (by omega) (by omega)
theorem P_X9_readNumber {J : JT} {Q : QT} (R : R_X9_readNumber J Q) {as : List Vl} {M : Mem} (h : nf G_X9_readNumber as M Q) : (enL as).length ≤ 4 ∧ J 0 (padL 4 (enL as)) [] M := by
  unfold nf G_X9_readNumber at h
  split at h
  · rename_i k lo hi
    obtain ⟨B, e, p, tk, fk, fp, rfl, hhi, ts, h1, h2⟩ := h
    refine ⟨Nat.le_of_ble_eq_true rfl, R_X9_readNumber_0 R (an o1 (an rfl (br (fun q => bt (by decide) (R_X9_readNumber_9 R (an o1 ⟨B, e, p, tk, fk, fp, rfl, ts, fun M1 tf1 ts1 => ?_⟩))) (fun q => bf (by decide) (h1 (fun z => q (ts.2.2.2.1.trans z)))))))⟩
    have q0 : M 1 5 = 0 := q
    have f0 : fk = 0 := ts.2.2.2.1.symm.trans q0
    have hQ := fun M' q v => h2 f0 M' (sk cBl B e p) q v rfl
    clear h2
    generalize ht : sk cBl B e p = t at ts1 hQ
    have te : t ≤ e := ts1.2.2.2.2.2.2.1
    have sb := sk_bd cDg B te
    have dg : ∀ i, t ≤ i → i < sk cDg B e t → cDg (B i) = true := fun i g1 g2 => skp_in cDg B _ t i g1 g2
    have ends : ∀ (M' : Mem) (y : Int), TF M M' → TS M' B e (sk cDg B e t) t fk fp → y = min (dgV B t (sk cDg B e t - t)) 1000000 → J 90 [some (vR 1), some (vI lo), some (vI hi), some (vI y)] [] M' := by
      intro M' y tf ts hy
      generalize hq : sk cDg B e t = q at ts hy hQ sb dg
      have vn : 0 ≤ dgV B t (q - t) := dgV_nn (fun i g1 g2 => dg i g1 (by omega))
      generalize hv : dgV B t (q - t) = v at hy vn hQ
      have fin : ∀ M2 : Mem, TF M M2 → TS M2 B e q t (nmK lo hi t q v) (nmP (nmK lo hi t q v) t fp) → J 124 [some (vR 1), some (vI lo), some (vI hi), some (vI y)] [] M2 := fun M2 tf2 ts2 => R_X9_readNumber_124 R (by rw [hy]; exact hQ M2 q v rfl hv.symm tf2 ts2)
      refine R_X9_readNumber_90 R (an o1 (an o1 (br (fun g => R_X9_readNumber_109 R ?_) (fun g => an o1 ⟨B, e, q, t, fk, fp, rfl, ts, fun M2 tf2 ts2 => fin M2 (tf.tr tf2) ?_⟩))))
      · have g : ¬ M' 1 3 = M' 1 4 := g
        rw [ts.2.1, ts.2.2.1] at g
        have qt : ¬ q = t := by omega
        have bad : (v < lo ∨ hi < v) → J 119 [some (vR 1), some (vI lo), some (vI hi), some (vI y)] [] M' := fun c => R_X9_readNumber_119 R (an o1 ⟨B, e, q, t, fk, fp, rfl, ts, fun M2 tf2 ts2 => fin M2 (tf.tr tf2) (by
          unfold rfK rfP at ts2
          rw [if_pos f0, if_pos f0] at ts2
          have e2 : nmK lo hi t q v = 2 := by unfold nmK; rw [if_neg qt, if_pos c]
          rw [e2]
          exact ts2)⟩)
        refine br (fun g2 => ?_) (fun g2 => br (fun g3 => fin M' tf ?_) (fun g3 => bad (Or.inr ?_)))
        · have g2 : y < lo := g2
          by_cases c : v < lo
          · exact bad (Or.inl c)
          · exact bad (Or.inr (by omega))
        · have g2 : ¬ y < lo := g2
          have g3 : y ≤ hi := g3
          have e2 : nmK lo hi t q v = 0 := by unfold nmK; rw [if_neg qt, if_neg (by omega)]
          rw [e2]
          unfold nmP
          rw [if_pos rfl, ← f0]
          exact ts
        · have g3 : ¬ y ≤ hi := g3
          omega
      · have g : M' 1 3 = M' 1 4 := Classical.not_not.mp g
        rw [ts.2.1, ts.2.2.1] at g
        have qt : q = t := by omega
        unfold rfK rfP at ts2
        rw [if_pos f0, if_pos f0] at ts2
        have e2 : nmK lo hi t q v = 1 := by unfold nmK; rw [if_pos qt]
        rw [e2]
        exact ts2
    have key : ∀ p, p ≤ e → t ≤ p → ∀ (M' : Mem) (y : Int), TF M M' → TS M' B e p t fk fp → sk cDg B e p = sk cDg B e t → y = min (dgV B t (p - t)) 1000000 → 0 ≤ dgV B t (p - t) → J 15 [some (vR 1), some (vI lo), some (vI hi), some (vI y)] [] M' := by
      refine dn ?_ ?_
      · intro _ M' y tf ts hs hy _
        rw [sk_e] at hs
        refine R_X9_readNumber_15 R (an o1 (an o1 (bt (show M' 1 2 ≤ M' 1 3 by rw [ts.1, ts.2.1]; omega) (ends M' y tf ?_ ?_))))
        · rw [← hs]; exact ts
        · rw [← hs]; exact hy
      · intro p hp ih tp M' y tf ts hs hy vn
        have e3 := ts.2.1
        have e600 := ts.2.2.2.2.2.1
        have b := ts.2.2.2.2.2.2.2.2 p (by omega)
        have eb : M' (1 + 1) (M' 1 3).toNat = w8 (B p) := by rw [e3, Int.toNat_natCast]; exact b.1
        have ak : AK 2 2 (M' 1 3) := by rw [e3]; exact ak_of sh2 (by omega) (by omega)
        have out : ¬ cDg (B p) = true → J 90 [some (vR 1), some (vI lo), some (vI hi), some (vI y)] [] M' := fun q => by
          rw [sk_n hp q] at hs
          exact ends M' y tf (by rw [← hs]; exact ts) (by rw [← hs]; exact hy)
        refine R_X9_readNumber_15 R (an o1 (an o1 (bf (show ¬ M' 1 2 ≤ M' 1 3 by rw [ts.1, ts.2.1]; omega) (an o1 (an o1 (an ak ?_))))))
        rw [eb]
        refine br (fun q => out ?_) (fun q => an o1 (an o1 (an ak ?_)))
        · have q : w8 (B p) < 48 := q
          intro z
          unfold cDg at z
          simp only [Bool.and_eq_true, decide_eq_true_eq] at z
          unfold w8 at q
          omega
        · have q : ¬ w8 (B p) < 48 := q
          rw [eb]
          refine br (fun q2 => out ?_) (fun q2 => an o1 (an o1 (an ak ?_)))
          · have q2 : 57 < w8 (B p) := q2
            intro z
            unfold cDg at z
            simp only [Bool.and_eq_true, decide_eq_true_eq] at z
            unfold w8 at q2
            omega
          · have q2 : ¬ 57 < w8 (B p) := q2
            have wb : w8 (B p) = B p ∧ 48 ≤ B p ∧ B p ≤ 57 := by unfold w8 at q q2 ⊢; omega
            have d : cDg (B p) = true := by
              unfold cDg
              simp only [Bool.and_eq_true, decide_eq_true_eq]
              exact wb.2
            rw [eb, wb.1]
            show wpl J Q _ _ [vI (min (f_sub (f_add (f_mul y 10) (B p)) 48) 1000000)] M'
            rw [f10 (by omega) (by omega) wb.2.1 wb.2.2]
            have ev : dgV B t (p + 1 - t) = 10 * dgV B t (p - t) + B p - 48 := by
              rw [show p + 1 - t = p - t + 1 by omega, dgV, show t + (p - t) = p by omega]
            refine an o1 (an o1 (ih (by omega) _ _ (tf.tr (TF.mv _ _)) (ts.mv hp) (by rw [← sk_y hp d]; exact hs) ?_ (by omega)))
            rw [hy, dg_min vn (by omega) (by omega), ev]
            congr 1
            omega
    exact key t te (Nat.le_refl _) M1 0 tf1 ts1 rfl (by rw [Nat.sub_self]; rfl) (by rw [Nat.sub_self]; exact Int.le_refl _)
  · exact h.elim
theorem w8_8 {x : Int} : w8 (w8 x) = w8 x := by unfold w8; omega
theorem w8_m {x : Int} : w8 (x % 256) = w8 x := by unfold w8; omega
theorem P_X9_put {J : JT} {Q : QT} (R : R_X9_put J Q) {as : List Vl} {M : Mem} (h : nf G_X9_put as M Q) : (enL as).length ≤ 3 ∧ J 0 (padL 3 (enL as)) [] M := by
  unfold nf G_X9_put at h
  split at h
  · rename_i k x
    obtain ⟨⟨rfl, n0, n4, hx⟩, hQ⟩ := h
    obtain ⟨n, hn⟩ : ∃ n : Nat, M 1 1 = (n : Int) := ⟨(M 1 1).toNat, by omega⟩
    rw [hn, Int.toNat_natCast] at hQ
    have key : ∀ j : Nat, j ≤ 4 → ∀ (y : Int) (M' : Mem), y = 24 - 8 * (j : Int) → (∀ u v, ¬ (u = 1 ∧ v = 1) → ¬ (u = 2 ∧ n ≤ v ∧ v < n + 4) → M' u v = M u v) → M' 1 1 = (n : Int) + (j : Int) → (∀ i, i < j → M' 2 (n + i) = w8 (x / 2 ^ (24 - 8 * i) % 256)) → J 3 [some (vR 1), some (vI x), some (vI y)] [] M' := by
      refine dn ?_ ?_
      · intro y M' hy h1 h2 h3
        exact R_X9_put_3 R (bt (show y < 0 by omega) (R_X9_put_46 R (hQ M' h1 h2 h3)))
      · intro j hj ih y M' hy h1 h2 h3
        have es : Unit → shrI x y = x / 2 ^ (24 - 8 * j) := fun _ => by
          rw [show y = ((24 - 8 * j : Nat) : Int) by omega]
          exact shrI_n hx (by omega)
        refine R_X9_put_3 R (bf (show ¬ y < 0 by omega) (an o1 (bf (show ¬ (600 : Int) ≤ M' 1 1 by omega) (an o1 (an o1 (an (show AK 2 2 (M' 1 1) from ak_of sh2 (by omega) (by omega)) (an o1 (an o1 (R_X9_put_40 R ?_)))))))))
        refine ih _ _ (w1 (by omega) (by omega) (by omega)) (fun u v q1 q2 => ?_) ?_ (fun i hi => ?_)
        · rw [up_ne (by omega), up_ne (by omega)]; exact h1 u v q1 q2
        · rw [up_eq, up_ne (by omega), h2]
          exact w1 (by omega) (by omega) (by omega)
        · rw [up_ne (by omega)]
          by_cases e : i = j
          · subst e
            rw [show (M' 1 1).toNat = n + i by omega, w8_m]
            refine up_eq.trans ?_
            rw [w8_8, es ()]
          · rw [up_ne (by omega)]; exact h3 i (by omega)
    exact ⟨Nat.le_of_ble_eq_true rfl, R_X9_put_0 R (key 0 (by decide) _ M (by decide) (fun _ _ _ _ => rfl) (by rw [hn]; omega) (fun i hi => by omega))⟩

  · exact h.elim