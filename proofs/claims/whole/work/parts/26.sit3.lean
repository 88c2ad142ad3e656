/-! phases keep a sitting sound -/
theorem hm_ok {Ab σ : Mem} (ho : HallOK Ab) {t : Nat} (ht : t < nT Ab) : hm Ab σ t = -1 ∨ (0 ≤ hm Ab σ t ∧ hm Ab σ t < Ab 10 1 ∧ σ 3 (hm Ab σ t).toNat = -1) := by
  have h := (ho.2.2.2.2.2.2.1 t ht).1
  unfold hm
  split
  · rename_i q
    exact Or.inr ⟨h.1, h.2, q⟩
  · exact Or.inl rfl
theorem sA_ok {Ab σ : Mem} {wo m : Int} (ho : HallOK Ab) (hl : LoanOK Ab 11 (Ab 10 5)) (h : SigOK Ab σ) : SigOK Ab (sA Ab wo m σ) := by
  refine ⟨fun t ht => ?_, fun t ht => ?_, h.2.2⟩
  · show (if σ 0 t = -2 ∧ thC Ab wo t = m then hm Ab σ t else σ 0 t) = -2 ∨ (if σ 0 t = -2 ∧ thC Ab wo t = m then hm Ab σ t else σ 0 t) = -1 ∨ (0 ≤ (if σ 0 t = -2 ∧ thC Ab wo t = m then hm Ab σ t else σ 0 t) ∧ (if σ 0 t = -2 ∧ thC Ab wo t = m then hm Ab σ t else σ 0 t) < Ab 10 1 ∧ σ 3 (if σ 0 t = -2 ∧ thC Ab wo t = m then hm Ab σ t else σ 0 t).toNat = -1)
    split
    · exact Or.inr (hm_ok ho ht)
    · exact h.1 t ht
  · show σ 1 t = -1 ∨ ∃ j, j < nL Ab ∧ σ 1 t = (j : Int) ∧ Ab 11 j = (t : Int) ∧ (if σ 0 t = -2 ∧ thC Ab wo t = m then hm Ab σ t else σ 0 t) = Ab 12 j
    rcases h.2.1 t ht with b | ⟨j, hj, b1, b2, b3⟩
    · exact Or.inl b
    · have := lok hl hj
      exact Or.inr ⟨j, hj, b1, b2, by rw [if_neg (by omega)]; exact b3⟩
theorem sB_ok {Ab σ : Mem} {tm : Int} (ho : HallOK Ab) (h : SigOK Ab σ) : SigOK Ab (sB' Ab tm σ) := by
  refine ⟨fun t ht => ?_, fun t ht => ?_, h.2.2⟩
  · show (if 0 ≤ σ 1 t ∧ Ab 14 (σ 1 t).toNat = tm then hm Ab σ t else σ 0 t) = -2 ∨ (if 0 ≤ σ 1 t ∧ Ab 14 (σ 1 t).toNat = tm then hm Ab σ t else σ 0 t) = -1 ∨ (0 ≤ (if 0 ≤ σ 1 t ∧ Ab 14 (σ 1 t).toNat = tm then hm Ab σ t else σ 0 t) ∧ (if 0 ≤ σ 1 t ∧ Ab 14 (σ 1 t).toNat = tm then hm Ab σ t else σ 0 t) < Ab 10 1 ∧ σ 3 (if 0 ≤ σ 1 t ∧ Ab 14 (σ 1 t).toNat = tm then hm Ab σ t else σ 0 t).toNat = -1)
    split
    · exact Or.inr (hm_ok ho ht)
    · exact h.1 t ht
  · show (if 0 ≤ σ 1 t ∧ Ab 14 (σ 1 t).toNat = tm then -1 else σ 1 t) = -1 ∨ ∃ j, j < nL Ab ∧ (if 0 ≤ σ 1 t ∧ Ab 14 (σ 1 t).toNat = tm then -1 else σ 1 t) = (j : Int) ∧ Ab 11 j = (t : Int) ∧ (if 0 ≤ σ 1 t ∧ Ab 14 (σ 1 t).toNat = tm then hm Ab σ t else σ 0 t) = Ab 12 j
    split
    · exact Or.inl rfl
    · exact h.2.1 t ht
theorem sC_ok {Ab σ : Mem} {tm : Int} (hl : LoanOK Ab 11 (Ab 10 5)) (h : SigOK Ab σ) : ∀ i, i ≤ nL Ab → SigOK Ab (sC Ab tm σ i)
  | 0, _ => h
  | i + 1, hi => by
    have ih := sC_ok (tm := tm) hl h i (by omega)
    rw [sC]
    split
    · rename_i hc
      have hlo := lok hl (i := i) (by unfold nL at hi; omega)
      refine ⟨fun t ht => ?_, fun t ht => ?_, fun p hp => ?_⟩
      · by_cases e : t = (Ab 11 i).toNat
        · subst e
          rw [up_ne (by omega), up_eq, up_ne (by omega), up_ne (by omega)]
          exact Or.inr (Or.inr ⟨hlo.2.1.1, hlo.2.1.2, hc.2.2⟩)
        · rw [up_ne (by omega), up_ne (by omega), up_ne (by omega), up_ne (by omega)]
          exact ih.1 t ht
      · by_cases e : t = (Ab 11 i).toNat
        · subst e
          refine Or.inr ⟨i, by omega, ?_, by omega, ?_⟩
          · rw [up_eq]
          · rw [up_ne (by omega), up_eq]
        · rw [up_ne (by omega), up_ne (by omega), up_ne (by omega), up_ne (by omega)]
          exact ih.2.1 t ht
      · rw [up_ne (by omega), up_ne (by omega), up_ne (by omega), up_ne (by omega)]
        exact ih.2.2 p hp
    · exact ih
theorem ld_bd {Ab : Mem} (ho : HallOK Ab) (σ : Mem) (p : Int) : 0 ≤ ldF Ab σ p ∧ ldF Ab σ p ≤ 1386 := wt_bd ho (Nat.le_refl _)
theorem ld_spent {Ab σ : Mem} (h : SigOK Ab σ) {p : Nat} (hp : ¬ σ 3 p = -1) : ldF Ab σ (p : Int) = 0 := by
  refine sumN_0 (fun t ht => ?_)
  show (if σ 0 t = (p : Int) then Ab 1 t else 0) = 0
  rw [if_neg]
  intro e
  rcases h.1 t ht with q | q | q
  · omega
  · omega
  · rw [e, Int.toNat_natCast] at q
    exact hp q.2.2
theorem sD_ok {Ab σ : Mem} {m : Int} (ho : HallOK Ab) (h : SigOK Ab σ) (m0 : 0 ≤ m) (m1 : m < 1000) : SigOK Ab (sD Ab m σ) := by
  refine ⟨fun t ht => ?_, fun t ht => ?_, fun p hp => ?_⟩
  · show (if 0 ≤ σ 0 t ∧ (σ 3 (σ 0 t).toNat = -1 ∧ σ 2 (σ 0 t).toNat - ldF Ab σ (σ 0 t) < 0) then -1 else σ 0 t) = -2 ∨ (if 0 ≤ σ 0 t ∧ (σ 3 (σ 0 t).toNat = -1 ∧ σ 2 (σ 0 t).toNat - ldF Ab σ (σ 0 t) < 0) then -1 else σ 0 t) = -1 ∨ (0 ≤ (if 0 ≤ σ 0 t ∧ (σ 3 (σ 0 t).toNat = -1 ∧ σ 2 (σ 0 t).toNat - ldF Ab σ (σ 0 t) < 0) then -1 else σ 0 t) ∧ (if 0 ≤ σ 0 t ∧ (σ 3 (σ 0 t).toNat = -1 ∧ σ 2 (σ 0 t).toNat - ldF Ab σ (σ 0 t) < 0) then -1 else σ 0 t) < Ab 10 1 ∧ sD Ab m σ 3 (if 0 ≤ σ 0 t ∧ (σ 3 (σ 0 t).toNat = -1 ∧ σ 2 (σ 0 t).toNat - ldF Ab σ (σ 0 t) < 0) then -1 else σ 0 t).toNat = -1)
    split
    · exact Or.inr (Or.inl rfl)
    · rename_i hc
      rcases h.1 t ht with q | q | q
      · exact Or.inl q
      · exact Or.inr (Or.inl q)
      · refine Or.inr (Or.inr ⟨q.1, q.2.1, ?_⟩)
        show (if σ 3 (σ 0 t).toNat = -1 ∧ σ 2 (σ 0 t).toNat - ldF Ab σ (((σ 0 t).toNat : Nat) : Int) < 0 then m else σ 3 (σ 0 t).toNat) = -1
        rw [show (((σ 0 t).toNat : Nat) : Int) = σ 0 t by omega, if_neg (fun z => hc ⟨q.1, z⟩)]
        exact q.2.2
  · show (if 0 ≤ σ 0 t ∧ (σ 3 (σ 0 t).toNat = -1 ∧ σ 2 (σ 0 t).toNat - ldF Ab σ (σ 0 t) < 0) then -1 else σ 1 t) = -1 ∨ ∃ j, j < nL Ab ∧ (if 0 ≤ σ 0 t ∧ (σ 3 (σ 0 t).toNat = -1 ∧ σ 2 (σ 0 t).toNat - ldF Ab σ (σ 0 t) < 0) then -1 else σ 1 t) = (j : Int) ∧ Ab 11 j = (t : Int) ∧ (if 0 ≤ σ 0 t ∧ (σ 3 (σ 0 t).toNat = -1 ∧ σ 2 (σ 0 t).toNat - ldF Ab σ (σ 0 t) < 0) then -1 else σ 0 t) = Ab 12 j
    split
    · exact Or.inl rfl
    · exact h.2.1 t ht
  · have hb := ld_bd ho σ (p : Int)
    have h3 := h.2.2 p hp
    have hz := @ld_spent Ab σ h p
    show ((if σ 3 p = -1 ∧ σ 2 p - ldF Ab σ (p : Int) < 0 then m else σ 3 p) = -1 → 0 ≤ σ 2 p - ldF Ab σ (p : Int)) ∧ (-1386 ≤ σ 2 p - ldF Ab σ (p : Int) ∧ σ 2 p - ldF Ab σ (p : Int) ≤ 5940) ∧ -1 ≤ (if σ 3 p = -1 ∧ σ 2 p - ldF Ab σ (p : Int) < 0 then m else σ 3 p) ∧ (if σ 3 p = -1 ∧ σ 2 p - ldF Ab σ (p : Int) < 0 then m else σ 3 p) < 1000
    by_cases e : σ 3 p = -1
    · split <;> omega
    · rw [hz e]
      split <;> omega
theorem ld_sD {Ab σ : Mem} {m : Int} (p : Nat) : ldF Ab (sD Ab m σ) (p : Int) = if σ 3 p = -1 ∧ σ 2 p - ldF Ab σ (p : Int) < 0 then 0 else ldF Ab σ (p : Int) := by
  unfold ldF
  split
  · rename_i hc
    refine sumN_0 (fun t ht => ?_)
    show (if (if 0 ≤ σ 0 t ∧ (σ 3 (σ 0 t).toNat = -1 ∧ σ 2 (σ 0 t).toNat - ldF Ab σ (σ 0 t) < 0) then -1 else σ 0 t) = (p : Int) then Ab 1 t else 0) = 0
    rw [if_neg]
    split
    · omega
    · rename_i hn
      intro e
      rw [e, Int.toNat_natCast] at hn
      exact hn ⟨by omega, hc⟩
  · rename_i hc
    refine sumN_cong (fun t ht => ?_)
    show (if (if 0 ≤ σ 0 t ∧ (σ 3 (σ 0 t).toNat = -1 ∧ σ 2 (σ 0 t).toNat - ldF Ab σ (σ 0 t) < 0) then -1 else σ 0 t) = (p : Int) then Ab 1 t else 0) = if σ 0 t = (p : Int) then Ab 1 t else 0
    split
    · rename_i hn
      rw [if_neg (by omega), if_neg]
      intro e
      rw [e, Int.toNat_natCast] at hn
      exact hc hn.2
    · rfl
def G_X8_weighHolders : FN := fun as M Q => match as with
  | [.inr (.inl k)] => ∃ Ab wo σ, SP M k Ab ∧ SitRel M k Ab wo σ ∧ ∀ M' : Mem, (∀ u v, u ≠ k + 20 → M' u v = M u v) → (∀ p, p < nP Ab → M' (k + 20) p = ldF Ab σ (p : Int)) → Q none M'
  | _ => False
def G_X8_dropAllOf : FN := fun as M Q => match as with
  | [.inr (.inl k), .inl p] => ∃ Ab, SP M k Ab ∧ (0 ≤ p ∧ p < 10) ∧ ∀ M' : Mem, (∀ u v, u ≠ k + 17 → u ≠ k + 20 → M' u v = M u v) → (∀ v : Nat, M' (k + 20) v = if (v : Int) = p then 0 else M (k + 20) v) → (∀ t, t < nT Ab → M' (k + 17) t = if M (k + 17) t = p then -1 else M (k + 17) t) → Q none M'
  | _ => False
def G_X8_tire : FN := fun as M Q => match as with
  | [.inr (.inl k), .inl m] => ∃ Ab wo σ, SP M k Ab ∧ SitRel M k Ab wo σ ∧ SigOK Ab σ ∧ (∀ p, p < nP Ab → M (k + 20) p = ldF Ab σ (p : Int)) ∧ ∀ M' : Mem, (∀ u v, u ≠ k + 17 → u ≠ k + 20 → u ≠ k + 21 → u ≠ k + 22 → M' u v = M u v) → SitRel M' k Ab wo (sD Ab m σ) → (∀ p, p < nP Ab → M' (k + 20) p = ldF Ab (sD Ab m σ) (p : Int)) → Q none M'
  | _ => False
def b_X8_weighHolders_0 : List AT := [tx_ic 0, tx_is 1, tx_fall 2]
def b_X8_weighHolders_2 : List AT := [tx_il 1, tx_al 0, tx_gm 8 0, tx_gi 6 0, tx_cmp r_ge 26, tx_al 0, tx_gr 8 20, tx_il 1, tx_ic 0, tx_iax, tx_inc 1 1, tx_fall 2]
def b_X8_weighHolders_26 : List AT := [tx_ic 0, tx_is 1, tx_fall 28]
def b_X8_weighHolders_28 : List AT := [tx_il 1, tx_al 0, tx_gm 8 0, tx_gi 6 3, tx_cmp r_ge 84, tx_al 0, tx_gm 8 0, tx_al 0, tx_gr 8 17, tx_il 1, tx_ia, tx_callv 6 (nf G_X6_hasPerson) 1, tx_ifz r_eq 78, tx_al 0, tx_gr 8 20, tx_al 0, tx_gr 8 17, tx_il 1, tx_ia, tx_dup2, tx_ia, tx_al 0, tx_gm 8 0, tx_gr 6 4, tx_il 1, tx_ia, tx_bin f_add, tx_iax, tx_fall 78]
def b_X8_weighHolders_78 : List AT := [tx_inc 1 1, tx_fall 28]
def b_X8_weighHolders_84 : List AT := [tx_rv]
def R_X8_weighHolders (J : JT) (Q : QT) : Prop := (∀ ls st M, wpl J Q b_X8_weighHolders_0 ls st M → J 0 ls st M) ∧ (∀ ls st M, wpl J Q b_X8_weighHolders_2 ls st M → J 2 ls st M) ∧ (∀ ls st M, wpl J Q b_X8_weighHolders_26 ls st M → J 26 ls st M) ∧ (∀ ls st M, wpl J Q b_X8_weighHolders_28 ls st M → J 28 ls st M) ∧ (∀ ls st M, wpl J Q b_X8_weighHolders_78 ls st M → J 78 ls st M) ∧ (∀ ls st M, wpl J Q b_X8_weighHolders_84 ls st M → J 84 ls st M)
theorem R_X8_weighHolders_0 {J : JT} {Q : QT} (R : R_X8_weighHolders J Q) {ls : Ls} {st : St} {M : Mem} (h : wpl J Q b_X8_weighHolders_0 ls st M) : J 0 ls st M := R.1 ls st M h
theorem R_X8_weighHolders_2 {J : JT} {Q : QT} (R : R_X8_weighHolders J Q) {ls : Ls} {st : St} {M : Mem} (h : wpl J Q b_X8_weighHolders_2 ls st M) : J 2 ls st M := R.2.1 ls st M h
theorem R_X8_weighHolders_26 {J : JT} {Q : QT} (R : R_X8_weighHolders J Q) {ls : Ls} {st : St} {M : Mem} (h : wpl J Q b_X8_weighHolders_26 ls st M) : J 26 ls st M := R.2.2.1 ls st M h
theorem R_X8_weighHolders_28 {J : JT} {Q : QT} (R : R_X8_weighHolders J Q) {ls : Ls} {st : St} {M : Mem} (h : wpl J Q b_X8_weighHolders_28 ls st M) : J 28 ls st M := R.2.2.2.1 ls st M h
theorem R_X8_weighHolders_78 {J : JT} {Q : QT} (R : R_X8_weighHolders J Q) {ls : Ls} {st : St} {M : Mem} (h : wpl J Q b_X8_weighHolders_78 ls st M) : J 78 ls st M := R.2.2.2.2.1 ls st M h
theorem R_X8_weighHolders_84 {J : JT} {Q : QT} (R : R_X8_weighHolders J Q) {ls : Ls} {st : St} {M : Mem} (h : wpl J Q b_X8_weighHolders_84 ls st M) : J 84 ls st M := R.2.2.2.2.2 ls st M h
def b_X8_dropAllOf_0 : List AT := [tx_al 0, tx_gr 8 20, tx_il 1, tx_ic 0, tx_iax, tx_ic 0, tx_is 2, tx_fall 9]
def b_X8_dropAllOf_9 : List AT := [tx_il 2, tx_al 0, tx_gm 8 0, tx_gi 6 3, tx_cmp r_ge 43, tx_al 0, tx_gr 8 17, tx_il 2, tx_ia, tx_il 1, tx_cmp r_ne 37, tx_al 0, tx_gr 8 17, tx_il 2, tx_ic (-1), tx_iax, tx_fall 37]
def b_X8_dropAllOf_37 : List AT := [tx_inc 2 1, tx_fall 9]
def b_X8_dropAllOf_43 : List AT := [tx_rv]
def R_X8_dropAllOf (J : JT) (Q : QT) : Prop := (∀ ls st M, wpl J Q b_X8_dropAllOf_0 ls st M → J 0 ls st M) ∧ (∀ ls st M, wpl J Q b_X8_dropAllOf_9 ls st M → J 9 ls st M) ∧ (∀ ls st M, wpl J Q b_X8_dropAllOf_37 ls st M → J 37 ls st M) ∧ (∀ ls st M, wpl J Q b_X8_dropAllOf_43 ls st M → J 43 ls st M)
theorem R_X8_dropAllOf_0 {J : JT} {Q : QT} (R : R_X8_dropAllOf J Q) {ls : Ls} {st : St} {M : Mem} (h : wpl J Q b_X8_dropAllOf_0 ls st M) : J 0 ls st M := R.1 ls st M h
theorem R_X8_dropAllOf_9 {J : JT} {Q : QT} (R : R_X8_dropAllOf J Q) {ls : Ls} {st : St} {M : Mem} (h : wpl J Q b_X8_dropAllOf_9 ls st M) : J 9 ls st M := R.2.1 ls st M h
theorem R_X8_dropAllOf_37 {J : JT} {Q : QT} (R : R_X8_dropAllOf J Q) {ls : Ls} {st : St} {M : Mem} (h : wpl J Q b_X8_dropAllOf_37 ls st M) : J 37 ls st M := R.2.2.1 ls st M h
theorem R_X8_dropAllOf_43 {J : JT} {Q : QT} (R : R_X8_dropAllOf J Q) {ls : Ls} {st : St} {M : Mem} (h : wpl J Q b_X8_dropAllOf_43 ls st M) : J 43 ls st M := R.2.2.2 ls st M h
def b_X8_tire_0 : List AT := [tx_ic 0, tx_is 2, tx_fall 2]
def b_X8_tire_2 : List AT := [tx_il 2, tx_al 0, tx_gm 8 0, tx_gi 6 0, tx_cmp r_ge 65, tx_al 0, tx_gr 8 21, tx_il 2, tx_dup2, tx_ia, tx_al 0, tx_gr 8 20, tx_il 2, tx_ia, tx_bin f_sub, tx_iax, tx_al 0, tx_gr 8 21, tx_il 2, tx_ia, tx_ifz r_ge 59, tx_al 0, tx_gr 8 22, tx_il 2, tx_ia, tx_ic (-1), tx_cmp r_ne 59, tx_al 0, tx_gr 8 22, tx_il 2, tx_il 1, tx_iax, tx_al 0, tx_il 2, tx_callv 8 (nf G_X8_dropAllOf) 1, tx_fall 59]
def b_X8_tire_59 : List AT := [tx_inc 2 1, tx_fall 2]
def b_X8_tire_65 : List AT := [tx_rv]
def R_X8_tire (J : JT) (Q : QT) : Prop := (∀ ls st M, wpl J Q b_X8_tire_0 ls st M → J 0 ls st M) ∧ (∀ ls st M, wpl J Q b_X8_tire_2 ls st M → J 2 ls st M) ∧ (∀ ls st M, wpl J Q b_X8_tire_59 ls st M → J 59 ls st M) ∧ (∀ ls st M, wpl J Q b_X8_tire_65 ls st M → J 65 ls st M)
theorem R_X8_tire_0 {J : JT} {Q : QT} (R : R_X8_tire J Q) {ls : Ls} {st : St} {M : Mem} (h : wpl J Q b_X8_tire_0 ls st M) : J 0 ls st M := R.1 ls st M h
theorem R_X8_tire_2 {J : JT} {Q : QT} (R : R_X8_tire J Q) {ls : Ls} {st : St} {M : Mem} (h : wpl J Q b_X8_tire_2 ls st M) : J 2 ls st M := R.2.1 ls st M h
theorem R_X8_tire_59 {J : JT} {Q : QT} (R : R_X8_tire J Q) {ls : Ls} {st : St} {M : Mem} (h : wpl J Q b_X8_tire_59 ls st M) : J 59 ls st M := R.2.2.1 ls st M h
theorem R_X8_tire_65 {J : JT} {Q : QT} (R : R_X8_tire J Q) {ls : Ls} {st : St} {M : Mem} (h : wpl J Q b_X8_tire_65 ls st M) : J 65 ls st M := R.2.2.2 ls st M h
theorem P_X8_weighHolders {J : JT} {Q : QT} (R : R_X8_weighHolders J Q) {as : List Vl} {M : Mem} (h : nf G_X8_weighHolders as M Q) : (enL as).length ≤ 2 ∧ J 0 (padL 2 (enL as)) [] M := by
  unfold nf G_X8_weighHolders at h
  split at h
  · rename_i k
    obtain ⟨Ab, wo, σ, hs, hr, hQ⟩ := h
    obtain ⟨g1, g2⟩ := si_ge hs.1
    have step : ∀ M' : Mem, (∀ u v, u ≠ k + 20 → M' u v = M u v) → SP M' k Ab := fun M' hf => hs.kept (fun u v hu => hf u v (by omega))
    obtain ⟨n1, n2⟩ := nT_le hs.pl.2.2
    obtain ⟨p1, p2⟩ := nP_le hs.pl.2.2
    have key2 : ∀ i, i ≤ nT Ab → ∀ (x : Int) (M' : Mem), x = (i : Int) → (∀ u v, u ≠ k + 20 → M' u v = M u v) → (∀ p, p < nP Ab → M' (k + 20) p = sumN (fun t => if σ 0 t = (p : Int) then Ab 1 t else 0) i) → J 28 [some (vR k), some (vI x)] [] M' := by
      refine dn ?_ ?_
      · intro x M' hx hf h1
        obtain ⟨hpk, hp, ho⟩ := (step M' hf).pl
        exact R_X8_weighHolders_28 R (an (si_ob hs.1) (an (pl_ob hpk) (bt (show M' (M' k 0).toNat 3 ≤ x by rw [hp.2.1]; omega) (R_X8_weighHolders_84 R (hQ M' hf h1)))))
      · intro i hi ih x M' hx hf h1
        obtain ⟨hpk, hp, ho⟩ := (step M' hf).pl
        subst hx
        have e1 : M' (k + 17) ((i : Int)).toNat = σ 0 i := by
          rw [Int.toNat_natCast, hf (k + 17) _ (by omega)]
          exact (hr.1 i hi).1
        have e4 : M' ((M' k 0).toNat + 4) i = Ab 1 i := (hp.2.2.2.2.2.2.1 i hi).2.1
        have a17 : AK 1 (k + 17) (i : Int) := ak_of (si_14 hs.1 (by decide) (by decide)) (by omega) (by omega)
        have skip : ¬ (0 ≤ σ 0 i ∧ σ 0 i < Ab 10 1) → J 78 [some (vR k), some (vI (i : Int))] [] M' := by
          intro hc
          refine R_X8_weighHolders_78 R (ih _ _ (wn rfl (by omega)) hf (fun p hp => ?_))
          rw [sumN, if_neg (by omega), h1 p hp]
          omega
        refine R_X8_weighHolders_28 R (an (si_ob hs.1) (an (pl_ob hpk) (bf (show ¬ M' (M' k 0).toNat 3 ≤ (i : Int) by rw [hp.2.1]; omega) (an (si_ob hs.1) (an (si_ob hs.1) (an a17 (an (pl_ob hpk) ⟨Ab, ⟨hpk, hp, ho⟩, ?_⟩)))))))
        show ((0 ≤ M' (k + 17) ((i : Int)).toNat ∧ M' (k + 17) ((i : Int)).toNat < Ab 10 1) → _) ∧ (¬ (0 ≤ M' (k + 17) ((i : Int)).toNat ∧ M' (k + 17) ((i : Int)).toNat < Ab 10 1) → _)
        rw [e1]
        refine br (fun qh => bf (by decide) ?_) (fun qh => bt rfl (skip qh))
        have a20 : AK 1 (k + 20) (σ 0 i) := ak_of (si_10 hs.1 (by decide) (by decide)) (by omega) (by omega)
        refine an (si_ob hs.1) (an (si_ob hs.1) (an a17 (an (by show AK 1 (k + 20) (M' (k + 17) ((i : Int)).toNat); rw [e1]; exact a20) (an (si_ob hs.1) (an (pl_ob hpk) (an (ak_of (pl_4 hpk) (by omega) (by omega)) (an (by show AK 1 (k + 20) (M' (k + 17) ((i : Int)).toNat); rw [e1]; exact a20) (R_X8_weighHolders_78 R (ih _ _ (wn rfl (by omega)) (fun u v hu => ?_) (fun p hp => ?_))))))))))
        · rw [up_ne (by omega)]; exact hf u v hu
        · rw [e1]
          have hb := wt_bd ho (c := fun t => σ 0 t = σ 0 i) (n := i + 1) (by omega)
          rw [sumN, if_pos rfl] at hb
          have hsn := h1 (σ 0 i).toNat (by omega)
          rw [show (((σ 0 i).toNat : Nat) : Int) = σ 0 i by omega] at hsn
          by_cases e : (p : Int) = σ 0 i
          · have e' : (σ 0 i).toNat = p := by omega
            rw [e', up_eq, sumN, if_pos e.symm]
            show w32 (M' (k + 20) p + M' ((M' k 0).toNat + 4) i) = _
            rw [e4, h1 p hp]
            rw [e', h1 p hp] at hsn
            rw [hsn]
            exact w1 (by omega) (by omega) rfl
          · rw [up_ne (by omega), sumN, if_neg (fun z => e z.symm), h1 p hp]
            omega
    have key1 : ∀ i, i ≤ nP Ab → ∀ (x : Int) (M' : Mem), x = (i : Int) → (∀ u v, u ≠ k + 20 → M' u v = M u v) → (∀ p, p < i → M' (k + 20) p = 0) → J 2 [some (vR k), some (vI x)] [] M' := by
      refine dn ?_ ?_
      · intro x M' hx hf h1
        obtain ⟨hpk, hp, ho⟩ := (step M' hf).pl
        exact R_X8_weighHolders_2 R (an (si_ob hs.1) (an (pl_ob hpk) (bt (show M' (M' k 0).toNat 0 ≤ x by rw [hp.1]; omega) (R_X8_weighHolders_26 R (key2 0 (Nat.zero_le _) _ _ rfl hf h1)))))
      · intro i hi ih x M' hx hf h1
        obtain ⟨hpk, hp, ho⟩ := (step M' hf).pl
        subst hx
        refine R_X8_weighHolders_2 R (an (si_ob hs.1) (an (pl_ob hpk) (bf (show ¬ M' (M' k 0).toNat 0 ≤ (i : Int) by rw [hp.1]; omega) (an (si_ob hs.1) (an (ak_of (si_10 hs.1 (by decide) (by decide)) (by omega) (by omega)) (ih _ _ (wn rfl (by omega)) (fun u v hu => ?_) (fun p hp => ?_)))))))
        · rw [up_ne (by omega)]; exact hf u v hu
        · rw [Int.toNat_natCast]
          by_cases e : p = i
          · subst e; rw [up_eq]
          · rw [up_ne (by omega)]; exact h1 p (by omega)
    exact ⟨Nat.le_of_ble_eq_true rfl, R_X8_weighHolders_0 R (key1 0 (Nat.zero_le _) _ _ rfl (fun _ _ _ => rfl) (fun p hp => absurd hp (Nat.not_lt_zero p)))⟩
  · exact h.elim
theorem P_X8_dropAllOf {J : JT} {Q : QT} (R : R_X8_dropAllOf J Q) {as : List Vl} {M : Mem} (h : nf G_X8_dropAllOf as M Q) : (enL as).length ≤ 3 ∧ J 0 (padL 3 (enL as)) [] M := by
  unfold nf G_X8_dropAllOf at h
  split at h
  · rename_i k p
    obtain ⟨Ab, hs, ⟨q0, q1⟩, hQ⟩ := h
    obtain ⟨g1, g2⟩ := si_ge hs.1
    have step : ∀ M' : Mem, (∀ u v, u ≠ k + 17 → u ≠ k + 20 → M' u v = M u v) → SP M' k Ab := fun M' hf => hs.kept (fun u v hu => hf u v (by omega) (by omega))
    obtain ⟨n1, n2⟩ := nT_le hs.pl.2.2
    have key : ∀ i, i ≤ nT Ab → ∀ (x : Int) (M' : Mem), x = (i : Int) → (∀ u v, u ≠ k + 17 → u ≠ k + 20 → M' u v = M u v) → (∀ v : Nat, M' (k + 20) v = if (v : Int) = p then 0 else M (k + 20) v) → (∀ t, t < nT Ab → M' (k + 17) t = if t < i ∧ M (k + 17) t = p then -1 else M (k + 17) t) → J 9 [some (vR k), some (vI p), some (vI x)] [] M' := by
      refine dn ?_ ?_
      · intro x M' hx hf h1 h2
        obtain ⟨hpk, hp, ho⟩ := (step M' hf).pl
        refine R_X8_dropAllOf_9 R (an (si_ob hs.1) (an (pl_ob hpk) (bt (show M' (M' k 0).toNat 3 ≤ x by rw [hp.2.1]; omega) (R_X8_dropAllOf_43 R (hQ M' hf h1 (fun t ht => ?_))))))
        rw [h2 t ht]
        by_cases e : M (k + 17) t = p
        · rw [if_pos ⟨ht, e⟩, if_pos e]
        · rw [if_neg (fun z => e z.2), if_neg e]
      · intro i hi ih x M' hx hf h1 h2
        obtain ⟨hpk, hp, ho⟩ := (step M' hf).pl
        subst hx
        have a17 : AK 1 (k + 17) (i : Int) := ak_of (si_14 hs.1 (by decide) (by decide)) (by omega) (by omega)
        have e1 : M' (k + 17) i = M (k + 17) i := by rw [h2 i hi, if_neg (by omega)]
        refine R_X8_dropAllOf_9 R (an (si_ob hs.1) (an (pl_ob hpk) (bf (show ¬ M' (M' k 0).toNat 3 ≤ (i : Int) by rw [hp.2.1]; omega) (an (si_ob hs.1) (an a17 (br (fun q => ?_) (fun q => an (si_ob hs.1) (an a17 ?_))))))))
        · have q : ¬ M' (k + 17) i = p := q
          rw [e1] at q
          refine R_X8_dropAllOf_37 R (ih _ _ (wn rfl (by omega)) hf h1 (fun t ht => ?_))
          rw [h2 t ht]
          by_cases e : t = i
          · subst e
            rw [if_neg (fun z => q z.2), if_neg (fun z => q z.2)]
          · by_cases e2 : t < i ∧ M (k + 17) t = p
            · rw [if_pos e2, if_pos ⟨by omega, e2.2⟩]
            · rw [if_neg e2, if_neg (fun z => e2 ⟨by omega, z.2⟩)]
        · have q : M' (k + 17) i = p := Classical.not_not.mp q
          rw [e1] at q
          refine R_X8_dropAllOf_37 R (ih _ _ (wn rfl (by omega)) (fun u v h3 h4 => ?_) (fun v => ?_) (fun t ht => ?_))
          · rw [up_ne (by omega)]; exact hf u v h3 h4
          · rw [up_ne (by omega)]; exact h1 v
          · rw [Int.toNat_natCast]
            by_cases e : t = i
            · subst e
              rw [up_eq, if_pos ⟨by omega, q⟩]
            · rw [up_ne (by omega), h2 t ht]
              by_cases e2 : t < i ∧ M (k + 17) t = p
              · rw [if_pos e2, if_pos ⟨by omega, e2.2⟩]
              · rw [if_neg e2, if_neg (fun z => e2 ⟨by omega, z.2⟩)]
    refine ⟨Nat.le_of_ble_eq_true rfl, R_X8_dropAllOf_0 R (an (si_ob hs.1) (an (ak_of (si_10 hs.1 (by decide) (by decide)) q0 (by omega)) (key 0 (Nat.zero_le _) _ _ rfl (fun u v h3 h4 => up_ne (by omega)) (fun v => ?_) (fun t ht => ?_))))⟩
    · by_cases e : (v : Int) = p
      · rw [show p.toNat = v by omega, up_eq, if_pos e]
      · rw [up_ne (by omega), if_neg e]
    · rw [up_ne (by omega), if_neg (by omega)]

  · exact h.elim