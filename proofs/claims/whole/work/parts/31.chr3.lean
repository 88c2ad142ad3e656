theorem SP.kept2 {M M' : Mem} {k : Nat} {Ab : Mem} (h : SP M k Ab) (e : ∀ u v, (u < 35 ∨ u = k) → M' u v = M u v) : SP M' k Ab := by
  obtain ⟨h1, h2, h3, h4, h5, h6, h7⟩ := h
  have e0 := e k 0 (by omega)
  have e1 := e k 1 (by omega)
  exact ⟨h1, by rw [e0]; exact h2, by rw [e1]; exact h3, by rw [e0]; exact h4.kept (fun u v q1 q2 => e u v (by omega)), by rw [e1]; exact h5.kept (fun u v q1 q2 => e u v (by omega)), h6, h7⟩
theorem cpy_at {M : Mem} {a b dp n v : Nat} (h : v < n) : cpy M a 0 b dp n b (dp + v) = M a v := by
  unfold cpy
  rw [if_pos ⟨rfl, by omega, by omega⟩]
  congr 1
  omega
theorem fm {a b : Int} (h0 : 0 ≤ a) (h1 : a < 1000) (h2 : 0 ≤ b) (h3 : b ≤ 100) : f_mul a b = a * b := by
  have h4 : a * b ≤ 1000 * 100 := Int.mul_le_mul (by omega) h3 h2 (by decide)
  have h5 : 0 ≤ a * b := Int.mul_nonneg h0 h2
  unfold f_mul
  exact w1 (by omega) (by omega) rfl
theorem sh59 : SH 59 = (1, 14, 0, 0) := rfl
theorem sh63 : SH 63 = (1, 10, 0, 0) := rfl
theorem sh66 : SH 66 = (1, 1680, 0, 0) := rfl
theorem sh67 : SH 67 = (1, 1200, 0, 0) := rfl
theorem P_X3_goThroughAll {J : JT} {Q : QT} (R : R_X3_goThroughAll J Q) {as : List Vl} {M : Mem} (h : nf G_X3_goThroughAll as M Q) : (enL as).length ≤ 4 ∧ J 0 (padL 4 (enL as)) [] M := by
  unfold nf G_X3_goThroughAll at h
  split at h
  · rename_i k pl lo
    obtain ⟨Ab, ⟨rfl, hpl, hlo⟩, hp, hlr, ho, hl, hQ⟩ := h
    obtain ⟨n1, n2⟩ := nT_le ho
    obtain ⟨p1, p2⟩ := nP_le ho
    have key : ∀ i : Nat, i ≤ 120 → ∀ (x : Int) (M' : Mem), x = (i : Int) → (∀ u v, (u < 41 ∨ (42 < u ∧ u < 59) ∨ 68 < u) → M' u v = M u v) → (M' 42 0).toNat = pl → (M' 42 1).toNat = lo → SP M' 42 Ab → SitRel M' 42 Ab (-1) (run Ab (-1) i) →
        (∀ m t, m < i → t < nT Ab → M' 66 (14 * m + t) = run Ab (-1) (m + 1) 0 t) → (∀ m p, m < i → p < nP Ab → M' 67 (10 * m + p) = run Ab (-1) (m + 1) 2 p) → (∀ k l s, k < nM Ab → Ab 7 k < (i : Int) → l < 3 → s < 2 → M' 68 (ix k l s) = cnM Ab k (l : Int) s) →
        J 12 [some (vR 41), some (vR pl), some (vR lo), some (vI x)] [] M' := by
      refine dn ?_ ?_
      · intro x M' hx h1 h2 h3 h4 h5 h6 h7 h8
        refine R_X3_goThroughAll_12 R (bt (show (120 : Int) ≤ x by omega) (R_X3_goThroughAll_80 R (an o41 (an (Or.inr rfl) (hQ _ (fun u v hu => ?_) ?_ ?_ ?_ ⟨?_, ?_, ?_, ?_, ?_, ?_⟩)))))
        · rw [up_ne (by omega)]; exact h1 u v hu
        · exact up_eq
        · rw [up_ne (by omega)]; exact h2
        · rw [up_ne (by omega)]; exact h3
        · exact h4.kept2 (fun u v hu => up_ne (by omega))
        · intro m t hm ht; rw [up_ne (by omega)]; exact h6 m t hm ht
        · intro m t hm ht; rw [up_ne (by omega)]; exact h7 m t hm ht
        · intro k l s hk hl hs
          rw [up_ne (by omega)]
          exact h8 k l s hk (by have := (ho.2.2.2.2.2.2.2.2 k hk); omega) hl hs
        · intro t ht; rw [up_ne (by omega)]; exact (h5.1 t ht).2.1
        · intro t ht; rw [up_ne (by omega)]; exact (h5.2 t ht).2
      · intro i hi ih x M' hx h1 h2 h3 h4 h5 h6 h7 h8
        subst hx
        have e14 : f_mul (i : Int) 14 = (i : Int) * 14 := fm (by omega) (by omega) (by decide) (by decide)
        have e10 : f_mul (i : Int) 10 = (i : Int) * 10 := fm (by omega) (by omega) (by decide) (by decide)
        refine R_X3_goThroughAll_12 R (bf (show ¬ (120 : Int) ≤ (i : Int) by omega) (an o41 (an o42 ⟨Ab, -1, run Ab (-1) i, h4, h5, runT_ok ho hl _ _ i (by omega), ⟨by omega, by omega⟩, fun M2 g1 g2 g3 g4 => an o41 (an o42 (an o41 (an ?_ ?_)))⟩)))
        · show (SH 59).1 = 1 ∧ (SH 66).1 = 1 ∧ 59 ≠ 66 ∧ (0 : Int) ≤ 14 ∧ (0 : Int) ≤ 0 ∧ (0 : Int) ≤ f_mul (i : Int) 14 ∧ (0 : Int) + 14 ≤ ((SH 59).2.1 : Int) ∧ f_mul (i : Int) 14 + 14 ≤ ((SH 66).2.1 : Int)
          rw [e14]
          exact ak_cp (n := 0) sh59 sh66 (by decide) (by decide) (by decide) (by omega) (by decide) (by omega)
        · refine an o41 (an o42 (an o41 (an ?_ ?_)))
          · show (SH 63).1 = 1 ∧ (SH 67).1 = 1 ∧ 63 ≠ 67 ∧ (0 : Int) ≤ 10 ∧ (0 : Int) ≤ 0 ∧ (0 : Int) ≤ f_mul (i : Int) 10 ∧ (0 : Int) + 10 ≤ ((SH 63).2.1 : Int) ∧ f_mul (i : Int) 10 + 10 ≤ ((SH 67).2.1 : Int)
            rw [e10]
            exact ak_cp (n := 0) sh63 sh67 (by decide) (by decide) (by decide) (by omega) (by decide) (by omega)
          · rw [e14, e10]
            generalize hM3 : cpy (cpy M2 (41 + 1 + 17) (Int.toNat 0) (41 + 25) ((i : Int) * 14).toNat (Int.toNat 14)) (41 + 1 + 21) (Int.toNat 0) (41 + 26) ((i : Int) * 10).toNat (Int.toNat 10) = M3
            have d14 : ((i : Int) * 14).toNat = 14 * i := by omega
            have d10 : ((i : Int) * 10).toNat = 10 * i := by omega
            rw [d14, d10] at hM3
            have f3 : ∀ u v, u ≠ 66 → u ≠ 67 → M3 u v = M2 u v := fun u v q1 q2 => by rw [← hM3, cpy_ne (by omega), cpy_ne (by omega)]
            have f66 : ∀ v, (v < 14 * i) → M3 66 v = M2 66 v := fun v q1 => by rw [← hM3, cpy_ne (by omega), cpy_ne (by omega)]
            have f67 : ∀ v, (v < 10 * i) → M3 67 v = M2 67 v := fun v q1 => by rw [← hM3, cpy_ne (by omega), cpy_ne (by omega)]
            have a66 : ∀ t, t < 14 → M3 66 (14 * i + t) = M2 59 t := fun t q => by rw [← hM3, cpy_ne (by omega)]; exact cpy_at q
            have a67 : ∀ t, t < 10 → M3 67 (10 * i + t) = M2 63 t := fun t q => by
              rw [← hM3]
              refine (cpy_at q).trans ?_
              rw [cpy_ne (by omega)]
            have s3 : SP M3 42 Ab := h4.kept (fun u v hu => by rw [f3 u v (by omega) (by omega)]; exact g1 u v (by omega))
            refine an o41 ⟨Ab, fun p => ldF Ab (run Ab (-1) (i + 1)) (p : Int), s3, rfl, fun p hp => ⟨?_, ld_bd ho _ _⟩, fun M4 b1 b2 => ?_⟩
            · rw [f3 _ _ (by decide) (by decide)]
              exact g4 p hp
            · refine ih _ _ (wn rfl (by omega)) (fun u v hu => ?_) ?_ ?_ ?_ ?_ ?_ ?_ ?_
              · rw [b1 u v (by omega), f3 u v (by omega) (by omega), g1 u v (by omega)]; exact h1 u v hu
              · rw [b1 _ _ (by decide), f3 _ _ (by decide) (by decide), g1 _ _ (by decide)]; exact h2
              · rw [b1 _ _ (by decide), f3 _ _ (by decide) (by decide), g1 _ _ (by decide)]; exact h3
              · exact s3.kept (fun u v hu => b1 u v (by omega))
              · refine ⟨fun t ht => ?_, fun p hp => ?_⟩
                · rw [b1 _ _ (by decide), f3 _ _ (by decide) (by decide), b1 _ _ (by decide), f3 _ _ (by decide) (by decide), b1 _ _ (by decide), f3 _ _ (by decide) (by decide)]
                  exact g2.1 t ht
                · rw [b1 _ _ (by decide), f3 _ _ (by decide) (by decide), b1 _ _ (by decide), f3 _ _ (by decide) (by decide)]
                  exact g2.2 p hp
              · intro m t hm ht
                rw [b1 _ _ (by decide)]
                by_cases q : m = i
                · subst q
                  rw [a66 t (by omega)]
                  exact (g2.1 t ht).1
                · rw [f66 _ (by omega), g1 _ _ (by decide)]
                  exact h6 m t (by omega) ht
              · intro m t hm ht
                rw [b1 _ _ (by decide)]
                by_cases q : m = i
                · subst q
                  rw [a67 t (by omega)]
                  exact (g2.2 t ht).1
                · rw [f67 _ (by omega), g1 _ _ (by decide)]
                  exact h7 m t (by omega) ht
              · intro k l s hk hk2 hl hs
                have q8 := (nM_le ho).1
                rw [b2 k l s (by omega) hl hs]
                by_cases q : Ab 7 k = (i : Int)
                · refine (if_pos ⟨hk, q⟩).trans ?_
                  unfold cnM
                  rw [q]
                  rfl
                · rw [if_neg (fun z => q z.2), f3 _ _ (by decide) (by decide), g1 _ _ (by decide)]
                  exact h8 k l s hk (by omega) hl hs
    refine ⟨Nat.le_of_ble_eq_true rfl, R_X3_goThroughAll_0 R (an o41 (an o42 ⟨Ab, ⟨Or.inl rfl, hpl, hlo⟩, hp, hlr, ho, hl, fun M' h1 h2 h3 h4 h5 => key 0 (by decide) _ _ rfl (fun u v hu => h1 u v (by omega)) h2 h3 h4 h5 ?_ ?_ ?_⟩))⟩
    · intro m t hm; omega
    · intro m t hm; omega
    · intro k l s hk hk2
      have := (ho.2.2.2.2.2.2.2.2 k hk); omega

  · exact h.elim