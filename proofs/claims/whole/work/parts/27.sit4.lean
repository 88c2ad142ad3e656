theorem P_X8_tire {J : JT} {Q : QT} (R : R_X8_tire J Q) {as : List Vl} {M : Mem} (h : nf G_X8_tire as M Q) : (enL as).length ≤ 3 ∧ J 0 (padL 3 (enL as)) [] M := by
  unfold nf G_X8_tire at h
  split at h
  · rename_i k m
    obtain ⟨Ab, wo, σ, hs, hr, hg, hld, hQ⟩ := h
    obtain ⟨g1, g2⟩ := si_ge hs.1
    have step : ∀ M' : Mem, (∀ u v, u ≠ k + 17 → u ≠ k + 20 → u ≠ k + 21 → u ≠ k + 22 → M' u v = M u v) → SP M' k Ab := fun M' hf => hs.kept (fun u v hu => hf u v (by omega) (by omega) (by omega) (by omega))
    obtain ⟨n1, n2⟩ := nT_le hs.pl.2.2
    obtain ⟨p1, p2⟩ := nP_le hs.pl.2.2
    have key : ∀ i, i ≤ nP Ab → ∀ (x : Int) (M' : Mem), x = (i : Int) → (∀ u v, u ≠ k + 17 → u ≠ k + 20 → u ≠ k + 21 → u ≠ k + 22 → M' u v = M u v) →
        (∀ t, t < nT Ab → M' (k + 17) t = if 0 ≤ σ 0 t ∧ σ 0 t < (i : Int) then sD Ab m σ 0 t else σ 0 t) →
        (∀ p, p < nP Ab → (p < i → M' (k + 20) p = ldF Ab (sD Ab m σ) (p : Int) ∧ M' (k + 21) p = sD Ab m σ 2 p ∧ M' (k + 22) p = sD Ab m σ 3 p) ∧ (i ≤ p → M' (k + 20) p = ldF Ab σ (p : Int) ∧ M' (k + 21) p = σ 2 p ∧ M' (k + 22) p = σ 3 p)) → J 2 [some (vR k), some (vI m), some (vI x)] [] M' := by
      refine dn ?_ ?_
      · intro x M' hx hf h1 h2
        obtain ⟨hpk, hp, ho⟩ := (step M' hf).pl
        refine R_X8_tire_2 R (an (si_ob hs.1) (an (pl_ob hpk) (bt (show M' (M' k 0).toNat 0 ≤ x by rw [hp.1]; omega) (R_X8_tire_65 R (hQ M' hf ⟨fun t ht => ?_, fun p hp => ?_⟩ (fun p hp => ((h2 p hp).1 hp).1))))))
        · obtain ⟨r1, r2, r3⟩ := hr.1 t ht
          rw [hf (k + 18) t (by omega) (by omega) (by omega) (by omega), hf (k + 19) t (by omega) (by omega) (by omega) (by omega)]
          have e0 : M' (k + 17) t = sD Ab m σ 0 t := by
            rw [h1 t ht]
            split
            · rfl
            · rename_i hc
              show _ = (if 0 ≤ σ 0 t ∧ (σ 3 (σ 0 t).toNat = -1 ∧ σ 2 (σ 0 t).toNat - ldF Ab σ (σ 0 t) < 0) then -1 else σ 0 t)
              rw [if_neg]
              intro z
              rcases hg.1 t ht with q | q | q <;> omega
          refine ⟨e0, r2, ?_⟩
          show lnt _ (if 0 ≤ σ 0 t ∧ (σ 3 (σ 0 t).toNat = -1 ∧ σ 2 (σ 0 t).toNat - ldF Ab σ (σ 0 t) < 0) then -1 else σ 1 t) (if 0 ≤ σ 0 t ∧ (σ 3 (σ 0 t).toNat = -1 ∧ σ 2 (σ 0 t).toNat - ldF Ab σ (σ 0 t) < 0) then -1 else σ 0 t)
          split
          · rcases r3 with r3 | r3
            · rcases hg.2.1 t ht with b | ⟨j, -, b, -⟩
              · exact Or.inl (r3.trans b)
              · exact Or.inr ⟨rfl, rfl, by omega⟩
            · exact Or.inr ⟨rfl, rfl, r3.2.2⟩
          · exact r3
        · exact ((h2 p hp).1 hp).2
      · intro i hi ih x M' hx hf h1 h2
        obtain ⟨hpk, hp, ho⟩ := (step M' hf).pl
        subst hx
        obtain ⟨e20, e21, e22⟩ := (h2 i hi).2 (Nat.le_refl _)
        have hb := ld_bd ho σ (i : Int)
        have h3 := hg.2.2 i hi
        have a : ∀ j, 20 ≤ j → j ≤ 22 → AK 1 (k + j) (i : Int) := fun j q1 q2 => ak_of (si_10 hs.1 q1 q2) (by omega) (by omega)
        have es : f_sub (M' (k + 21) i) (M' (k + 20) i) = σ 2 i - ldF Ab σ (i : Int) := by
          rw [e20, e21]
          exact w1 (by omega) (by omega) rfl
        refine R_X8_tire_2 R (an (si_ob hs.1) (an (pl_ob hpk) (bf (show ¬ M' (M' k 0).toNat 0 ≤ (i : Int) by rw [hp.1]; omega) (an (si_ob hs.1) (an (a 21 (by decide) (by decide)) (an (si_ob hs.1) (an (a 20 (by decide) (by decide)) (an (a 21 (by decide) (by decide)) (an (si_ob hs.1) (an (a 21 (by decide) (by decide)) ?_))))))))))
        show (0 ≤ up M' (k + 21) i (f_sub (M' (k + 21) i) (M' (k + 20) i)) (k + 21) i → J 59 [some (vR k), some (vI m), some (vI (i : Int))] [] (up M' (k + 21) i (f_sub (M' (k + 21) i) (M' (k + 20) i)))) ∧ (¬ 0 ≤ up M' (k + 21) i (f_sub (M' (k + 21) i) (M' (k + 20) i)) (k + 21) i → OB k 8 ∧ AK 1 (k + 22) (i : Int) ∧ (¬ up M' (k + 21) i (f_sub (M' (k + 21) i) (M' (k + 20) i)) (k + 22) i = -1 → J 59 [some (vR k), some (vI m), some (vI (i : Int))] [] (up M' (k + 21) i (f_sub (M' (k + 21) i) (M' (k + 20) i)))) ∧ (¬ ¬ up M' (k + 21) i (f_sub (M' (k + 21) i) (M' (k + 20) i)) (k + 22) i = -1 → OB k 8 ∧ AK 1 (k + 22) (i : Int) ∧ OB k 8 ∧ ∃ Ab, SP (up (up M' (k + 21) i (f_sub (M' (k + 21) i) (M' (k + 20) i))) (k + 22) i m) k Ab ∧ (0 ≤ (i : Int) ∧ (i : Int) < 10) ∧ ∀ M2 : Mem, (∀ u v, u ≠ k + 17 → u ≠ k + 20 → M2 u v = up (up M' (k + 21) i (f_sub (M' (k + 21) i) (M' (k + 20) i))) (k + 22) i m u v) → (∀ v : Nat, M2 (k + 20) v = if (v : Int) = (i : Int) then 0 else up (up M' (k + 21) i (f_sub (M' (k + 21) i) (M' (k + 20) i))) (k + 22) i m (k + 20) v) → (∀ t, t < nT Ab → M2 (k + 17) t = if up (up M' (k + 21) i (f_sub (M' (k + 21) i) (M' (k + 20) i))) (k + 22) i m (k + 17) t = (i : Int) then -1 else up (up M' (k + 21) i (f_sub (M' (k + 21) i) (M' (k + 20) i))) (k + 22) i m (k + 17) t) → J 59 [some (vR k), some (vI m), some (vI (i : Int))] [] M2))
        rw [es, up_eq, up_ne (M := M') (x := k + 22) (by omega), e22]
        have skip : ¬ (σ 3 i = -1 ∧ σ 2 i - ldF Ab σ (i : Int) < 0) → J 59 [some (vR k), some (vI m), some (vI (i : Int))] [] (up M' (k + 21) i (σ 2 i - ldF Ab σ (i : Int))) := by
          intro hc
          refine R_X8_tire_59 R (ih _ _ (wn rfl (by omega)) (fun u v u1 u2 u3 u4 => ?_) (fun t ht => ?_) (fun p hp => ⟨fun hpi => ?_, fun hpi => ?_⟩))
          · rw [up_ne (by omega)]; exact hf u v u1 u2 u3 u4
          · rw [up_ne (by omega), h1 t ht]
            by_cases e : σ 0 t = (i : Int)
            · rw [if_neg (by omega), if_pos (by omega)]
              show _ = (if 0 ≤ σ 0 t ∧ (σ 3 (σ 0 t).toNat = -1 ∧ σ 2 (σ 0 t).toNat - ldF Ab σ (σ 0 t) < 0) then -1 else σ 0 t)
              rw [e, Int.toNat_natCast, if_neg (fun z => hc z.2)]
            · by_cases e2 : 0 ≤ σ 0 t ∧ σ 0 t < (i : Int)
              · rw [if_pos e2, if_pos (by omega)]
              · rw [if_neg e2, if_neg (by omega)]
          · rw [up_ne (by omega), up_ne (x := k + 22) (by omega)]
            by_cases e : p = i
            · subst e
              rw [up_eq, e20, e22, ld_sD, if_neg hc]
              refine ⟨rfl, rfl, ?_⟩
              show _ = (if σ 3 p = -1 ∧ σ 2 p - ldF Ab σ (p : Int) < 0 then m else σ 3 p)
              rw [if_neg hc]
            · rw [up_ne (by omega)]
              exact (h2 p hp).1 (by omega)
          · rw [up_ne (by omega), up_ne (by omega), up_ne (by omega)]
            exact (h2 p hp).2 (by omega)
        refine ⟨fun q => skip (by omega), fun q => ⟨si_ob hs.1, a 22 (by decide) (by decide), fun q2 => skip (fun z => q2 z.1), fun q2 => ⟨si_ob hs.1, a 22 (by decide) (by decide), si_ob hs.1, Ab, (step M' hf).kept (fun u v hu => by rw [up_ne (by omega), up_ne (by omega)]), ⟨by omega, by omega⟩, fun M2 f1 f2 f3 => ?_⟩⟩⟩
        have hc : σ 3 i = -1 ∧ σ 2 i - ldF Ab σ (i : Int) < 0 := ⟨Classical.not_not.mp q2, by omega⟩
        refine R_X8_tire_59 R (ih _ _ (wn rfl (by omega)) (fun u v u1 u2 u3 u4 => ?_) (fun t ht => ?_) (fun p hp => ⟨fun hpi => ?_, fun hpi => ?_⟩))
        · rw [f1 u v u1 u2, up_ne (by omega), up_ne (by omega)]; exact hf u v u1 u2 u3 u4
        · rw [f3 t ht, up_ne (by omega), up_ne (by omega), h1 t ht]
          by_cases e : σ 0 t = (i : Int)
          · rw [if_neg (show ¬ (0 ≤ σ 0 t ∧ σ 0 t < (i : Int)) by omega), if_pos e, if_pos (by omega)]
            show _ = (if 0 ≤ σ 0 t ∧ (σ 3 (σ 0 t).toNat = -1 ∧ σ 2 (σ 0 t).toNat - ldF Ab σ (σ 0 t) < 0) then -1 else σ 0 t)
            rw [e, Int.toNat_natCast, if_pos ⟨by omega, hc⟩]
          · by_cases e2 : 0 ≤ σ 0 t ∧ σ 0 t < (i : Int)
            · rw [if_pos e2, if_pos (show 0 ≤ σ 0 t ∧ σ 0 t < ((i + 1 : Nat) : Int) by omega), if_neg]
              show ¬ (if 0 ≤ σ 0 t ∧ (σ 3 (σ 0 t).toNat = -1 ∧ σ 2 (σ 0 t).toNat - ldF Ab σ (σ 0 t) < 0) then -1 else σ 0 t) = (i : Int)
              split <;> omega
            · rw [if_neg e2, if_neg e, if_neg (by omega)]
        · rw [f2 p, f1 (k + 21) p (by omega) (by omega), f1 (k + 22) p (by omega) (by omega)]
          by_cases e : p = i
          · subst e
            rw [if_pos rfl, up_eq, up_ne (by omega), up_eq, ld_sD, if_pos hc]
            refine ⟨rfl, rfl, ?_⟩
            show _ = (if σ 3 p = -1 ∧ σ 2 p - ldF Ab σ (p : Int) < 0 then m else σ 3 p)
            rw [if_pos hc]
          · rw [if_neg (by omega), up_ne (by omega), up_ne (by omega), up_ne (by omega), up_ne (by omega), up_ne (by omega), up_ne (by omega)]
            exact (h2 p hp).1 (by omega)
        · rw [f2 p, f1 (k + 21) p (by omega) (by omega), f1 (k + 22) p (by omega) (by omega), if_neg (by omega), up_ne (by omega), up_ne (by omega), up_ne (by omega), up_ne (by omega), up_ne (by omega), up_ne (by omega)]
          exact (h2 p hp).2 (by omega)
    refine ⟨Nat.le_of_ble_eq_true rfl, R_X8_tire_0 R (key 0 (Nat.zero_le _) _ _ rfl (fun _ _ _ _ _ _ => rfl) (fun t ht => ?_) (fun p hp => ⟨fun q => absurd q (Nat.not_lt_zero p), fun _ => ⟨hld p hp, (hr.2 p hp).1, (hr.2 p hp).2⟩⟩))⟩
    rw [if_neg (by omega)]
    exact (hr.1 t ht).1
  · exact h.elim
/-- no lending is told for a minute that is none -/
theorem sB_none {Ab σ : Mem} (hl : LoanOK Ab 11 (Ab 10 5)) (h : SigOK Ab σ) {t : Nat} (ht : t < nT Ab) (c : Nat) : sB' Ab (-1) σ c t = σ c t := by
  unfold sB' sB
  split
  · rw [if_neg]
    rcases h.2.1 t ht with b | ⟨j, hj, b, -⟩
    · omega
    · have := lok hl hj
      rw [b, Int.toNat_natCast]
      omega
  · rfl
theorem sC_none {Ab σ : Mem} (hl : LoanOK Ab 11 (Ab 10 5)) : ∀ i, i ≤ nL Ab → sC Ab (-1) σ i = σ
  | 0, _ => rfl
  | i + 1, h => by
    have := lok hl (i := i) (by unfold nL at h; omega)
    rw [sC, if_neg (by omega)]
    exact sC_none hl i (by omega)
def G_X8_goThrough : FN := fun as M Q => match as with
  | [.inr (.inl k), .inl m, .inl tm] => ∃ Ab wo σ, SP M k Ab ∧ SitRel M k Ab wo σ ∧ SigOK Ab σ ∧ (0 ≤ m ∧ m < 1000) ∧ ∀ M' : Mem, (∀ u v, (u < k + 17 ∨ k + 22 < u) → M' u v = M u v) → SitRel M' k Ab wo (stp Ab wo m tm σ) → SigOK Ab (stp Ab wo m tm σ) → (∀ p, p < nP Ab → M' (k + 20) p = ldF Ab (stp Ab wo m tm σ) (p : Int)) → Q none M'
  | _ => False
def b_X8_goThrough_0 : List AT := [tx_al 0, tx_il 1, tx_callv 8 (nf G_X8_comeIn) 1, tx_il 2, tx_ic (-1), tx_cmp r_eq 20, tx_al 0, tx_il 2, tx_callv 8 (nf G_X8_giveBack) 1, tx_al 0, tx_il 2, tx_callv 8 (nf G_X8_giveAway) 1, tx_fall 20]
def b_X8_goThrough_20 : List AT := [tx_al 0, tx_callv 8 (nf G_X8_weighHolders) 0, tx_al 0, tx_il 1, tx_callv 8 (nf G_X8_tire) 1, tx_rv]
def R_X8_goThrough (J : JT) (Q : QT) : Prop := (∀ ls st M, wpl J Q b_X8_goThrough_0 ls st M → J 0 ls st M) ∧ (∀ ls st M, wpl J Q b_X8_goThrough_20 ls st M → J 20 ls st M)
theorem R_X8_goThrough_0 {J : JT} {Q : QT} (R : R_X8_goThrough J Q) {ls : Ls} {st : St} {M : Mem} (h : wpl J Q b_X8_goThrough_0 ls st M) : J 0 ls st M := R.1 ls st M h
theorem R_X8_goThrough_20 {J : JT} {Q : QT} (R : R_X8_goThrough J Q) {ls : Ls} {st : St} {M : Mem} (h : wpl J Q b_X8_goThrough_20 ls st M) : J 20 ls st M := R.2 ls st M h
theorem SitRel.eqv {M : Mem} {k : Nat} {Ab : Mem} {wo : Int} {σ τ : Mem} (h : SitRel M k Ab wo σ) (h1 : ∀ t, t < nT Ab → σ 0 t = τ 0 t ∧ σ 1 t = τ 1 t) (h2 : ∀ p, p < nP Ab → σ 2 p = τ 2 p ∧ σ 3 p = τ 3 p) : SitRel M k Ab wo τ := by
  refine ⟨fun t ht => ?_, fun p hp => ?_⟩
  · rw [← (h1 t ht).1, ← (h1 t ht).2]; exact h.1 t ht
  · rw [← (h2 p hp).1, ← (h2 p hp).2]; exact h.2 p hp
theorem P_X8_goThrough {J : JT} {Q : QT} (R : R_X8_goThrough J Q) {as : List Vl} {M : Mem} (h : nf G_X8_goThrough as M Q) : (enL as).length ≤ 3 ∧ J 0 (padL 3 (enL as)) [] M := by
  unfold nf G_X8_goThrough at h
  split at h
  · rename_i k m tm
    obtain ⟨Ab, wo, σ, hs, hr, hg, ⟨m0, m1⟩, hQ⟩ := h
    obtain ⟨g1, g2⟩ := si_ge hs.1
    have ho := hs.pl.2.2
    have hlo := hs.2.2.2.2.2.2
    have gA := sA_ok (wo := wo) (m := m) ho hlo hg
    have gB := sB_ok (tm := tm) ho gA
    have gC := sC_ok (tm := tm) hlo gB (nL Ab) (Nat.le_refl _)
    have gD := sD_ok (m := m) ho gC m0 m1
    have tail : ∀ M2 : Mem, (∀ u v, (u < k + 17 ∨ k + 22 < u) → M2 u v = M u v) → SitRel M2 k Ab wo (sC Ab tm (sB' Ab tm (sA Ab wo m σ)) (nL Ab)) → J 20 [some (vR k), some (vI m), some (vI tm)] [] M2 := by
      intro M2 f2 r2
      have s2 : SP M2 k Ab := hs.kept (fun u v hu => f2 u v (Or.inl hu))
      refine R_X8_goThrough_20 R (an (si_ob hs.1) ⟨Ab, wo, _, s2, r2, fun M3 f3 l3 => an (si_ob hs.1) ⟨Ab, wo, _, s2.kept (fun u v hu => f3 u v (by omega)), ⟨fun t ht => ?_, fun p hp => ?_⟩, gC, l3, fun M4 f4 r4 l4 => hQ M4 (fun u v hu => ?_) r4 gD l4⟩⟩)
      · rw [f3 _ _ (by omega), f3 _ _ (by omega), f3 _ _ (by omega)]; exact r2.1 t ht
      · rw [f3 _ _ (by omega), f3 _ _ (by omega)]; exact r2.2 p hp
      · rw [f4 u v (by omega) (by omega) (by omega) (by omega), f3 u v (by omega)]; exact f2 u v hu
    refine ⟨Nat.le_of_ble_eq_true rfl, R_X8_goThrough_0 R (an (si_ob hs.1) ⟨Ab, wo, σ, hs, hr, fun M1 f1 r1 => br (fun q => ?_) (fun q => ?_)⟩)⟩
    · have q : tm = -1 := q
      subst q
      refine tail M1 (fun u v hu => f1 u v (by omega)) ?_
      rw [sC_none hlo _ (Nat.le_refl _)]
      exact r1.eqv (fun t ht => ⟨(sB_none hlo gA ht 0).symm, (sB_none hlo gA ht 1).symm⟩) (fun p hp => ⟨rfl, rfl⟩)
    · have s1 : SP M1 k Ab := hs.kept (fun u v hu => f1 u v (by omega))
      refine an (si_ob hs.1) ⟨Ab, wo, _, s1, r1, gA, fun M2 f2 r2 => an (si_ob hs.1) ⟨Ab, wo, _, s1.kept (fun u v hu => f2 u v (by omega) (by omega)), r2, fun M3 f3 r3 => tail M3 (fun u v hu => ?_) r3⟩⟩
      rw [f3 u v (by omega) (by omega), f2 u v (by omega) (by omega)]
      exact f1 u v (by omega)

  · exact h.elim