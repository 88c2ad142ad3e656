theorem nL_le {Ab : Mem} (h : LoanOK Ab 11 (Ab 10 5)) : nL Ab ≤ 20 ∧ ((nL Ab : Nat) : Int) = Ab 10 5 := by have := h.1; unfold nL; omega
theorem lok {Ab : Mem} {n : Int} (h : LoanOK Ab 11 n) {i : Nat} (hi : i < n.toNat) : (0 ≤ Ab 11 i ∧ Ab 11 i < Ab 10 2) ∧ (0 ≤ Ab 12 i ∧ Ab 12 i < Ab 10 1) ∧ Ab 12 i ≠ Ab 0 (Ab 11 i).toNat ∧ (0 ≤ Ab 13 i ∧ Ab 13 i ≤ 119) ∧ (Ab 13 i < Ab 14 i ∧ Ab 14 i ≤ 120) := h.2 i hi
theorem sC_c (Ab : Mem) (tm : Int) (σ : Mem) {c : Nat} (hc : 2 ≤ c) (v : Nat) : ∀ i, sC Ab tm σ i c v = σ c v
  | 0 => rfl
  | i + 1 => by
    rw [sC]
    split
    · rw [up_ne (by omega), up_ne (by omega)]
      exact sC_c Ab tm σ hc v i
    · exact sC_c Ab tm σ hc v i
theorem P_X8_giveBack {J : JT} {Q : QT} (R : R_X8_giveBack J Q) {as : List Vl} {M : Mem} (h : nf G_X8_giveBack as M Q) : (enL as).length ≤ 4 ∧ J 0 (padL 4 (enL as)) [] M := by
  unfold nf G_X8_giveBack at h
  split at h
  · rename_i k tm
    obtain ⟨Ab, wo, σ, hs, hr, hg, hQ⟩ := h
    obtain ⟨g1, g2⟩ := si_ge hs.1
    have hlo := hs.2.2.2.2.2.2
    obtain ⟨l1, l2⟩ := nL_le hlo
    have step : ∀ M' : Mem, (∀ u v, u ≠ k + 17 → u ≠ k + 19 → M' u v = M u v) → SP M' k Ab := fun M' hf => hs.kept (fun u v hu => hf u v (by omega) (by omega))
    obtain ⟨n1, n2⟩ := nT_le hs.pl.2.2
    obtain ⟨p1, p2⟩ := nP_le hs.pl.2.2
    have key : ∀ i, i ≤ nL Ab → ∀ (x : Int) (M' : Mem) (z : Option Vl), x = (i : Int) → (∀ u v, u ≠ k + 17 → u ≠ k + 19 → M' u v = M u v) →
        (∀ t, t < nT Ab → 0 ≤ σ 1 t → ((σ 1 t < (i : Int) ∧ Ab 14 (σ 1 t).toNat = tm) → M' (k + 17) t = hm Ab σ t ∧ M' (k + 19) t = -1) ∧ (¬ (σ 1 t < (i : Int) ∧ Ab 14 (σ 1 t).toNat = tm) → M' (k + 17) t = σ 0 t ∧ M' (k + 19) t = σ 1 t)) →
        (∀ t, t < nT Ab → σ 1 t = -1 → M' (k + 17) t = σ 0 t ∧ lnt (M' (k + 19) t) (-1) (σ 0 t)) → J 2 [some (vR k), some (vI tm), some (vI x), z] [] M' := by
      refine dn ?_ ?_
      · intro x M' z hx hf h1 h2
        have hsp := step M' hf
        refine R_X8_giveBack_2 R (an (si_ob hs.1) (an (lo_ob hsp.lo) (bt (show M' (M' k 1).toNat 0 ≤ x by rw [hsp.2.2.2.2.1.1]; omega) (R_X8_giveBack_99 R (hQ M' hf ?_)))))
        refine ⟨fun t ht => ?_, fun p hp => ?_⟩
        · obtain ⟨r1, r2, r3⟩ := hr.1 t ht
          rw [hf (k + 18) t (by omega) (by omega)]
          rcases hg.2.1 t ht with b | ⟨j, hj, b1, b2, b3⟩
          · obtain ⟨a1, a2⟩ := h2 t ht b
            refine ⟨?_, r2, ?_⟩
            · show _ = (if 0 ≤ σ 1 t ∧ Ab 14 (σ 1 t).toNat = tm then hm Ab σ t else σ 0 t)
              rw [if_neg (by omega)]
              exact a1
            · show lnt _ (if 0 ≤ σ 1 t ∧ Ab 14 (σ 1 t).toNat = tm then -1 else σ 1 t) (if 0 ≤ σ 1 t ∧ Ab 14 (σ 1 t).toNat = tm then hm Ab σ t else σ 0 t)
              rw [if_neg (by omega), if_neg (by omega), b]
              exact a2
          · have h0 : 0 ≤ σ 1 t := by omega
            obtain ⟨a1, a2⟩ := h1 t ht h0
            by_cases hc : Ab 14 (σ 1 t).toNat = tm
            · obtain ⟨c1, c2⟩ := a1 ⟨by omega, hc⟩
              refine ⟨?_, r2, ?_⟩
              · show _ = (if 0 ≤ σ 1 t ∧ Ab 14 (σ 1 t).toNat = tm then hm Ab σ t else σ 0 t)
                rw [if_pos ⟨h0, hc⟩]
                exact c1
              · show lnt _ (if 0 ≤ σ 1 t ∧ Ab 14 (σ 1 t).toNat = tm then -1 else σ 1 t) _
                rw [if_pos ⟨h0, hc⟩]
                exact Or.inl c2
            · obtain ⟨c1, c2⟩ := a2 (fun q => hc q.2)
              refine ⟨?_, r2, ?_⟩
              · show _ = (if 0 ≤ σ 1 t ∧ Ab 14 (σ 1 t).toNat = tm then hm Ab σ t else σ 0 t)
                rw [if_neg (fun q => hc q.2)]
                exact c1
              · show lnt _ (if 0 ≤ σ 1 t ∧ Ab 14 (σ 1 t).toNat = tm then -1 else σ 1 t) _
                rw [if_neg (fun q => hc q.2)]
                exact Or.inl c2
        · rw [hf (k + 21) _ (by omega) (by omega), hf (k + 22) _ (by omega) (by omega)]
          exact hr.2 p hp
      · intro i hi ih x M' z hx hf h1 h2
        have hsp := step M' hf
        obtain ⟨hpk, hp, ho⟩ := hsp.pl
        obtain ⟨e1, e2, e3, e4⟩ := hsp.2.2.2.2.1.2 i hi
        obtain ⟨⟨o1, o1'⟩, ⟨o2, o2'⟩, o3, o4, o5⟩ := lok hlo hi
        subst hx
        have al : ∀ j, 1 ≤ j → j ≤ 4 → AK 1 ((M' k 1).toNat + j) (i : Int) := fun j q1 q2 => ak_of (lo_n hsp.lo q1 q2) (by omega) (by omega)
        have ht : (Ab 11 i).toNat < nT Ab := by omega
        have skip : (∀ t, t < nT Ab → σ 1 t = (i : Int) → Ab 14 i ≠ tm) → ∀ z', J 93 [some (vR k), some (vI tm), some (vI (i : Int)), z'] [] M' := by
          intro hc z'
          refine R_X8_giveBack_93 R (ih _ _ _ (wn rfl (by omega)) hf (fun t ht h0 => ⟨fun q => ?_, fun q => ?_⟩) h2)
          · by_cases e : σ 1 t = (i : Int)
            · exfalso
              apply hc t ht e
              rw [e] at q
              exact q.2
            · exact (h1 t ht h0).1 ⟨by omega, q.2⟩
          · exact (h1 t ht h0).2 (fun q2 => q ⟨by omega, q2.2⟩)
        refine R_X8_giveBack_2 R (an (si_ob hs.1) (an (lo_ob hsp.lo) (bf (show ¬ M' (M' k 1).toNat 0 ≤ (i : Int) by rw [hsp.2.2.2.2.1.1]; omega) (an (si_ob hs.1) (an (lo_ob hsp.lo) (an (al 1 (by decide) (by decide)) ?_))))))
        have e1' : M' ((M' k 1).toNat + 1) ((i : Int)).toNat = Ab 11 i := e1
        rw [e1']
        refine an (si_ob hs.1) (an (lo_ob hsp.lo) (an (al 4 (by decide) (by decide)) (br (fun q => ?_) (fun q => ?_))))
        · have q : ¬ M' ((M' k 1).toNat + 4) i = tm := q
          rw [e4] at q
          exact skip (fun _ _ _ => q) _
        · have q : M' ((M' k 1).toNat + 4) i = tm := Classical.not_not.mp q
          rw [e4] at q
          refine an (si_ob hs.1) (an (pl_ob hpk) ⟨Ab, ⟨hpk, hp, ho⟩, br (fun qt => bf (by decide) ?_) (fun qt => absurd ⟨o1, o1'⟩ qt)⟩)
          have a19 : AK 1 (k + 19) (Ab 11 i) := ak_of (si_14 hs.1 (by decide) (by decide)) (by omega) (by omega)
          have a17 : AK 1 (k + 17) (Ab 11 i) := ak_of (si_14 hs.1 (by decide) (by decide)) (by omega) (by omega)
          have uniq : ∀ t, t < nT Ab → σ 1 t = (i : Int) → t = (Ab 11 i).toNat := by
            intro t ht e
            rcases hg.2.1 t ht with b | ⟨j, hj, b1, b2, b3⟩
            · omega
            · have : j = i := by omega
              subst this
              omega
          refine an (si_ob hs.1) (an a19 (br (fun q2 => ?_) (fun q2 => ?_)))
          · refine skip (fun t ht e => ?_) _
            exfalso
            have := uniq t ht e
            subst this
            obtain ⟨-, c2⟩ := (h1 _ ht (by omega)).2 (by omega)
            exact q2 (c2.trans e)
          · have q2 : M' (k + 19) (Ab 11 i).toNat = (i : Int) := Classical.not_not.mp q2
            refine an (si_ob hs.1) (an a19 (an (si_ob hs.1) (an a17 (an (si_ob hs.1) (an ?_ (an ?_ ?_))))))
            · show OB (up M' (k + 19) (Ab 11 i).toNat (-1) k 1).toNat 5
              rw [up_ne (by omega)]
              exact lo_ob hsp.lo
            · show AK 1 ((up M' (k + 19) (Ab 11 i).toNat (-1) k 1).toNat + 2) (i : Int)
              rw [up_ne (by omega)]
              exact al 2 (by decide) (by decide)
            · have ev1 : up M' (k + 19) (Ab 11 i).toNat (-1) (k + 17) (Ab 11 i).toNat = M' (k + 17) (Ab 11 i).toNat := up_ne (by omega)
              have ev2 : up M' (k + 19) (Ab 11 i).toNat (-1) ((up M' (k + 19) (Ab 11 i).toNat (-1) k 1).toNat + 2) i = Ab 12 i := by
                rw [up_ne (M := M') (x := k) (by omega), up_ne (by have := hsp.2.2.1; omega)]
                exact e2
              have oth : ∀ t, t < nT Ab → t ≠ (Ab 11 i).toNat → σ 1 t ≠ (i : Int) := fun t ht hne e => hne (uniq t ht e)
              rcases hg.2.1 (Ab 11 i).toNat ht with b | ⟨j, hj, b1, b2, b3⟩
              · -- a stale one
                obtain ⟨c1, c2⟩ := h2 _ ht b
                rw [q2] at c2
                have c3 : σ 0 (Ab 11 i).toNat = -1 := by
                  rcases c2 with c2 | c2
                  · omega
                  · exact c2.2.1
                refine bt ?_ (R_X8_giveBack_93 R (ih _ _ _ (wn rfl (by omega)) (fun u v u1 u2 => ?_) (fun t ht2 h0 => ?_) (fun t ht2 h0 => ?_)))
                · show ¬ up M' (k + 19) (Ab 11 i).toNat (-1) (k + 17) (Ab 11 i).toNat = up M' (k + 19) (Ab 11 i).toNat (-1) ((up M' (k + 19) (Ab 11 i).toNat (-1) k 1).toNat + 2) i
                  rw [ev1, ev2, c1]
                  omega
                · rw [up_ne (by omega)]; exact hf u v u1 u2
                · have hne : t ≠ (Ab 11 i).toNat := by rintro rfl; omega
                  have hne2 := oth t ht2 hne
                  rw [up_ne (by omega), up_ne (by omega)]
                  exact ⟨fun qq => (h1 t ht2 h0).1 ⟨by omega, qq.2⟩, fun qq => (h1 t ht2 h0).2 (fun q3 => qq ⟨by omega, q3.2⟩)⟩
                · rw [up_ne (by omega)]
                  by_cases e : t = (Ab 11 i).toNat
                  · subst e
                    rw [up_eq]
                    exact ⟨c1, Or.inl rfl⟩
                  · rw [up_ne (by omega)]
                    exact h2 t ht2 h0
              · have h0 : 0 ≤ σ 1 (Ab 11 i).toNat := by omega
                have hji : σ 1 (Ab 11 i).toNat = (i : Int) := by
                  obtain ⟨a1, a2⟩ := h1 _ ht h0
                  by_cases hc : σ 1 (Ab 11 i).toNat < (i : Int) ∧ Ab 14 (σ 1 (Ab 11 i).toNat).toNat = tm
                  · have := (a1 hc).2
                    omega
                  · have := (a2 hc).2
                    omega
                have hj2 : j = i := by omega
                subst hj2
                obtain ⟨c1, -⟩ := (h1 _ ht h0).2 (by omega)
                refine bf ?_ (an (si_ob hs.1) (an (si_ob hs.1) ⟨Ab, hsp.kept (fun u v hu => up_ne (by omega)), ⟨o1, o1'⟩, an a17 (R_X8_giveBack_93 R (ih _ _ _ (wn rfl (by omega)) (fun u v u1 u2 => ?_) (fun t ht2 h0 => ?_) (fun t ht2 h0 => ?_)))⟩))
                · show ¬ ¬ up M' (k + 19) (Ab 11 j).toNat (-1) (k + 17) (Ab 11 j).toNat = up M' (k + 19) (Ab 11 j).toNat (-1) ((up M' (k + 19) (Ab 11 j).toNat (-1) k 1).toNat + 2) j
                  rw [ev1, ev2, c1]
                  omega
                · rw [up_ne (by omega), up_ne (by omega)]; exact hf u v u1 u2
                · by_cases e : t = (Ab 11 j).toNat
                  · subst e
                    rw [up_eq, up_ne (M := up M' (k + 19) (Ab 11 j).toNat (-1)) (by omega), up_eq]
                    refine ⟨fun _ => ⟨?_, rfl⟩, fun qq => absurd ⟨by omega, ?_⟩ qq⟩
                    · rw [up_ne (by omega), hf (k + 22) _ (by omega) (by omega)]
                      have o6 := (ho.2.2.2.2.2.2.1 _ ht).1
                      rw [(hr.2 _ (by omega)).2]
                      rfl
                    · rw [hji, Int.toNat_natCast]
                      exact q
                  · have hne2 := oth t ht2 e
                    rw [up_ne (by omega), up_ne (by omega), up_ne (by omega), up_ne (by omega)]
                    exact ⟨fun qq => (h1 t ht2 h0).1 ⟨by omega, qq.2⟩, fun qq => (h1 t ht2 h0).2 (fun q3 => qq ⟨by omega, q3.2⟩)⟩
                · have hne : t ≠ (Ab 11 j).toNat := by rintro rfl; omega
                  rw [up_ne (by omega), up_ne (by omega), up_ne (by omega), up_ne (by omega)]
                  exact h2 t ht2 h0
    refine ⟨Nat.le_of_ble_eq_true rfl, R_X8_giveBack_0 R (key 0 (Nat.zero_le _) _ _ _ rfl (fun _ _ _ _ => rfl) (fun t ht h0 => ⟨fun q => absurd q.1 (by omega), fun _ => ?_⟩) (fun t ht h0 => ?_))⟩
    · obtain ⟨r1, r2, r3⟩ := hr.1 t ht
      refine ⟨r1, ?_⟩
      rcases r3 with r3 | r3
      · exact r3
      · omega
    · obtain ⟨r1, r2, r3⟩ := hr.1 t ht
      rw [h0] at r3
      exact ⟨r1, r3⟩
  · exact h.elim
theorem P_X8_giveAway {J : JT} {Q : QT} (R : R_X8_giveAway J Q) {as : List Vl} {M : Mem} (h : nf G_X8_giveAway as M Q) : (enL as).length ≤ 4 ∧ J 0 (padL 4 (enL as)) [] M := by
  unfold nf G_X8_giveAway at h
  split at h
  · rename_i k tm
    obtain ⟨Ab, wo, σ, hs, hr, hQ⟩ := h
    obtain ⟨g1, g2⟩ := si_ge hs.1
    have hlo := hs.2.2.2.2.2.2
    obtain ⟨l1, l2⟩ := nL_le hlo
    have step : ∀ M' : Mem, (∀ u v, u ≠ k + 17 → u ≠ k + 19 → M' u v = M u v) → SP M' k Ab := fun M' hf => hs.kept (fun u v hu => hf u v (by omega) (by omega))
    obtain ⟨n1, n2⟩ := nT_le hs.pl.2.2
    obtain ⟨p1, p2⟩ := nP_le hs.pl.2.2
    have key : ∀ i, i ≤ nL Ab → ∀ (x : Int) (M' : Mem) (z : Option Vl), x = (i : Int) → (∀ u v, u ≠ k + 17 → u ≠ k + 19 → M' u v = M u v) →
        (∀ t, t < nT Ab → M' (k + 17) t = sC Ab tm σ i 0 t ∧ lnt (M' (k + 19) t) (sC Ab tm σ i 1 t) (sC Ab tm σ i 0 t)) → J 2 [some (vR k), some (vI tm), some (vI x), z] [] M' := by
      refine dn ?_ ?_
      · intro x M' z hx hf h1
        have hsp := step M' hf
        refine R_X8_giveAway_2 R (an (si_ob hs.1) (an (lo_ob hsp.lo) (bt (show M' (M' k 1).toNat 0 ≤ x by rw [hsp.2.2.2.2.1.1]; omega) (R_X8_giveAway_109 R (hQ M' hf ?_)))))
        refine ⟨fun t ht => ?_, fun p hp => ?_⟩
        · obtain ⟨r1, r2, r3⟩ := hr.1 t ht
          rw [hf (k + 18) t (by omega) (by omega)]
          exact ⟨(h1 t ht).1, r2, (h1 t ht).2⟩
        · rw [hf (k + 21) _ (by omega) (by omega), hf (k + 22) _ (by omega) (by omega), sC_c _ _ _ (by decide), sC_c _ _ _ (by decide)]
          exact hr.2 p hp
      · intro i hi ih x M' z hx hf h1
        have hsp := step M' hf
        obtain ⟨hpk, hp, ho⟩ := hsp.pl
        obtain ⟨e1, e2, e3, e4⟩ := hsp.2.2.2.2.1.2 i hi
        obtain ⟨⟨o1, o1'⟩, ⟨o2, o2'⟩, o3, o4, o5⟩ := lok hlo hi
        subst hx
        have al : ∀ j, 1 ≤ j → j ≤ 4 → AK 1 ((M' k 1).toNat + j) (i : Int) := fun j q1 q2 => ak_of (lo_n hsp.lo q1 q2) (by omega) (by omega)
        have ht : (Ab 11 i).toNat < nT Ab := by omega
        have skip : ¬ (Ab 13 i = tm ∧ sC Ab tm σ i 0 (Ab 11 i).toNat = Ab 0 (Ab 11 i).toNat ∧ sC Ab tm σ i 3 (Ab 12 i).toNat = -1) → ∀ z', J 103 [some (vR k), some (vI tm), some (vI (i : Int)), z'] [] M' := by
          intro hc z'
          refine R_X8_giveAway_103 R (ih _ _ _ (wn rfl (by omega)) hf (fun t ht => ?_))
          rw [sC, if_neg hc]
          exact h1 t ht
        refine R_X8_giveAway_2 R (an (si_ob hs.1) (an (lo_ob hsp.lo) (bf (show ¬ M' (M' k 1).toNat 0 ≤ (i : Int) by rw [hsp.2.2.2.2.1.1]; omega) (an (si_ob hs.1) (an (lo_ob hsp.lo) (an (al 1 (by decide) (by decide)) ?_))))))
        have e1' : M' ((M' k 1).toNat + 1) ((i : Int)).toNat = Ab 11 i := e1
        have e2' : M' ((M' k 1).toNat + 2) ((i : Int)).toNat = Ab 12 i := e2
        rw [e1']
        refine an (si_ob hs.1) (an (lo_ob hsp.lo) (an (al 3 (by decide) (by decide)) (br (fun q => ?_) (fun q => ?_))))
        · have q : ¬ M' ((M' k 1).toNat + 3) i = tm := q
          rw [e3] at q
          exact skip (fun z => q z.1) _
        · have q : M' ((M' k 1).toNat + 3) i = tm := Classical.not_not.mp q
          rw [e3] at q
          refine an (si_ob hs.1) (an (pl_ob hpk) ⟨Ab, ⟨hpk, hp, ho⟩, br (fun qt => bf (by decide) ?_) (fun qt => absurd ⟨o1, o1'⟩ qt)⟩)
          have a19 : AK 1 (k + 19) (Ab 11 i) := ak_of (si_14 hs.1 (by decide) (by decide)) (by omega) (by omega)
          have a17 : AK 1 (k + 17) (Ab 11 i) := ak_of (si_14 hs.1 (by decide) (by decide)) (by omega) (by omega)
          have a3 : AK 1 ((M' k 0).toNat + 3) (Ab 11 i) := ak_of (pl_3 hpk) (by omega) (by omega)
          have e5 : M' ((M' k 0).toNat + 3) (Ab 11 i).toNat = Ab 0 (Ab 11 i).toNat := (hp.2.2.2.2.2.2.1 _ ht).1
          refine an (si_ob hs.1) (an a17 (an (si_ob hs.1) (an (pl_ob hpk) (an a3 (br (fun q2 => ?_) (fun q2 => ?_))))))
          · have q2 : ¬ M' (k + 17) (Ab 11 i).toNat = M' ((M' k 0).toNat + 3) (Ab 11 i).toNat := q2
            rw [e5, (h1 _ ht).1] at q2
            exact skip (fun z => q2 z.2.1) _
          · have q2 : M' (k + 17) (Ab 11 i).toNat = M' ((M' k 0).toNat + 3) (Ab 11 i).toNat := Classical.not_not.mp q2
            rw [e5, (h1 _ ht).1] at q2
            refine an (si_ob hs.1) (an (lo_ob hsp.lo) (an (al 2 (by decide) (by decide)) (an (si_ob hs.1) ?_)))
            have e22 : M' (k + 22) (Ab 12 i).toNat = sC Ab tm σ i 3 (Ab 12 i).toNat := by
              rw [hf (k + 22) _ (by omega) (by omega), sC_c _ _ _ (by decide)]
              exact (hr.2 _ (by omega)).2
            show (SitAt k ∧ 0 ≤ M' ((M' k 1).toNat + 2) ((i : Int)).toNat ∧ M' ((M' k 1).toNat + 2) ((i : Int)).toNat < 10) ∧ _
            rw [e2']
            refine ⟨⟨hs.1, o2, by omega⟩, fun q3 => bt (by decide) (skip (fun z => q3 (e22.trans z.2.2)) _), fun q3 => bf (by decide) ?_⟩
            have q3 := e22.symm.trans (Classical.not_not.mp q3)
            refine an (si_ob hs.1) (an (si_ob hs.1) (an (lo_ob hsp.lo) (an (al 2 (by decide) (by decide)) (an a17 (an (si_ob hs.1) (an a19 (R_X8_giveAway_103 R (ih _ _ _ (wn rfl (by omega)) (fun u v u1 u2 => ?_) (fun t ht2 => ?_)))))))))
            · rw [up_ne (by omega), up_ne (by omega)]; exact hf u v u1 u2
            · rw [sC, if_pos ⟨q, q2, q3⟩]
              by_cases e : t = (Ab 11 i).toNat
              · subst e
                rw [up_eq, up_ne (M := up M' (k + 17) (Ab 11 i).toNat (M' ((M' k 1).toNat + 2) ((i : Int)).toNat)) (by omega), up_eq, up_eq, up_ne (M := up (sC Ab tm σ i) 0 (Ab 11 i).toNat (Ab 12 i)) (by omega), up_eq, e2']
                exact ⟨rfl, Or.inl rfl⟩
              · rw [up_ne (by omega), up_ne (by omega), up_ne (by omega), up_ne (by omega), up_ne (by omega), up_ne (by omega), up_ne (by omega), up_ne (by omega)]
                exact h1 t ht2
    exact ⟨Nat.le_of_ble_eq_true rfl, R_X8_giveAway_0 R (key 0 (Nat.zero_le _) _ _ _ rfl (fun _ _ _ _ => rfl) (fun t ht => ⟨(hr.1 t ht).1, (hr.1 t ht).2.2⟩))⟩

  · exact h.elim