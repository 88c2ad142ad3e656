/-! a minute of the reference's sitting -/
def tmF (F L m : Int) : Int := if m < F then m else if m < F + L then -1 else m - L
theorem later_iff {F L m x : Int} (hL : 0 ≤ L) (hx : 0 ≤ x) : (if F ≤ x then x + L else x) = m ↔ x = tmF F L m := by
  unfold tmF
  by_cases h1 : F ≤ x
  · rw [if_pos h1]
    by_cases h2 : m < F
    · rw [if_pos h2]; omega
    · rw [if_neg h2]
      by_cases h3 : m < F + L
      · rw [if_pos h3]; omega
      · rw [if_neg h3]; omega
  · rw [if_neg h1]
    by_cases h2 : m < F
    · rw [if_pos h2]
    · rw [if_neg h2]
      by_cases h3 : m < F + L
      · rw [if_pos h3]; omega
      · rw [if_neg h3]; omega
/-- who is outside behind n minutes -/
def OU (Ab : Mem) (wo n : Int) (σ : Mem) : Prop := ∀ t, t < nT Ab → (t : Int) ≠ wo → (σ 0 t = -2 ↔ (Ab 2 t ≠ -1 ∧ n ≤ thF Ab wo t))
def mxT (σ τ : Mem) (i : Nat) : Mem := fun c t => if (c = 0 ∨ c = 1) ∧ t < i then τ c t else σ c t
theorem mxT_0 (σ τ : Mem) : mxT σ τ 0 = σ := by
  funext c t
  unfold mxT
  rw [if_neg (by omega)]
theorem RS.eqv {M Ab σ τ : Mem} {wo : Int} (h : RS M Ab wo σ) (h1 : ∀ t, t < nT Ab → σ 0 t = τ 0 t ∧ σ 1 t = τ 1 t) (h2 : ∀ p, p < nP Ab → σ 2 p = τ 2 p ∧ σ 3 p = τ 3 p) : RS M Ab wo τ := by
  refine ⟨fun t ht => ?_, fun p hp => ?_⟩
  · rw [← (h1 t ht).1, ← (h1 t ht).2]; exact h.1 t ht
  · rw [← (h2 p hp).1, ← (h2 p hp).2]; exact h.2 p hp
theorem RS.kept {M M' Ab σ : Mem} {wo : Int} (h : RS M Ab wo σ) (e : ∀ u v, 292 ≤ u → u ≤ 296 → M' u v = M u v) : RS M' Ab wo σ := by
  refine ⟨fun t ht => ?_, fun p hp => ?_⟩
  · rw [e _ _ (by omega) (by omega), e _ _ (by omega) (by omega)]; exact h.1 t ht
  · rw [e _ _ (by omega) (by omega), e _ _ (by omega) (by omega)]; exact h.2 p hp
theorem RS_put {M Ab σ τ : Mem} {wo a b : Int} {i : Nat} (h : RS M Ab wo (mxT σ τ i)) (hi : (i : Int) ≠ wo) (ha : a = τ 0 i) (hb : b = τ 1 i) : RS (up (up M 292 i a) 293 i b) Ab wo (mxT σ τ (i + 1)) := by
  refine ⟨fun t ht => ?_, fun p hp => ?_⟩
  · by_cases e : t = i
    · subst e
      rw [up_ne (by omega), up_eq, up_eq]
      refine ⟨fun _ => ⟨?_, ?_⟩, fun q => absurd q hi⟩
      · unfold mxT; rw [if_pos ⟨Or.inl rfl, by omega⟩]; exact ha
      · unfold mxT; rw [if_pos ⟨Or.inr rfl, by omega⟩]; exact hb
    · rw [up_ne (by omega), up_ne (by omega), up_ne (by omega)]
      have e0 : ∀ c, mxT σ τ (i + 1) c t = mxT σ τ i c t := by
        intro c
        unfold mxT
        exact if_iff (by omega)
      rw [e0, e0]
      exact h.1 t ht
  · rw [up_ne (by omega), up_ne (by omega), up_ne (by omega), up_ne (by omega)]
    have e2 : ∀ j, mxT σ τ j 2 p = σ 2 p ∧ mxT σ τ j 3 p = σ 3 p := by
      intro j
      unfold mxT
      rw [if_neg (by omega), if_neg (by omega)]
      exact ⟨rfl, rfl⟩
    have := h.2 p hp
    rw [(e2 _).1, (e2 _).2] at this ⊢
    exact this
theorem RS_skip {M Ab σ τ : Mem} {wo : Int} {i : Nat} (h : RS M Ab wo (mxT σ τ i)) (h1 : (i : Int) ≠ wo → τ 0 i = σ 0 i ∧ τ 1 i = σ 1 i) (h2 : (i : Int) = wo → τ 0 i = -2) : RS M Ab wo (mxT σ τ (i + 1)) := by
  refine ⟨fun t ht => ?_, fun p hp => ?_⟩
  · have := h.1 t ht
    by_cases e : t = i
    · subst e
      have a0 : mxT σ τ t 0 t = σ 0 t ∧ mxT σ τ t 1 t = σ 1 t := by unfold mxT; rw [if_neg (by omega), if_neg (by omega)]; exact ⟨rfl, rfl⟩
      have a1 : mxT σ τ (t + 1) 0 t = τ 0 t ∧ mxT σ τ (t + 1) 1 t = τ 1 t := by unfold mxT; rw [if_pos ⟨Or.inl rfl, by omega⟩, if_pos ⟨Or.inr rfl, by omega⟩]; exact ⟨rfl, rfl⟩
      rw [a0.1, a0.2] at this
      rw [a1.1, a1.2]
      refine ⟨fun q => ?_, fun q => ⟨(this.2 q).1, h2 q⟩⟩
      rw [(h1 q).1, (h1 q).2]
      exact this.1 q
    · have e0 : ∀ c, mxT σ τ (i + 1) c t = mxT σ τ i c t := by
        intro c
        unfold mxT
        exact if_iff (by omega)
      rw [e0, e0]
      exact this
  · have e2 : ∀ j, mxT σ τ j 2 p = σ 2 p ∧ mxT σ τ j 3 p = σ 3 p := by
      intro j
      unfold mxT
      rw [if_neg (by omega), if_neg (by omega)]
      exact ⟨rfl, rfl⟩
    have := h.2 p hp
    rw [(e2 _).1, (e2 _).2] at this ⊢
    exact this
theorem RS_end {M Ab σ τ : Mem} {wo : Int} (h : RS M Ab wo (mxT σ τ (nT Ab))) (h2 : ∀ p, p < nP Ab → σ 2 p = τ 2 p ∧ σ 3 p = τ 3 p) : RS M Ab wo τ := by
  refine h.eqv (fun t ht => ?_) (fun p hp => ?_)
  · unfold mxT; rw [if_pos ⟨Or.inl rfl, ht⟩, if_pos ⟨Or.inr rfl, ht⟩]; exact ⟨rfl, rfl⟩
  · have e2 : mxT σ τ (nT Ab) 2 p = σ 2 p ∧ mxT σ τ (nT Ab) 3 p = σ 3 p := by
      unfold mxT
      rw [if_neg (by omega), if_neg (by omega)]
      exact ⟨rfl, rfl⟩
    rw [e2.1, e2.2]
    exact h2 p hp
/-- between the persons: those ahead of i have tired -/
noncomputable def mxP (Ab : Mem) (m : Int) (σ : Mem) (i : Nat) : Mem := fun c t =>
  if c = 0 then (if (0 ≤ σ 0 t ∧ σ 0 t < (i : Int)) ∧ (σ 3 (σ 0 t).toNat = -1 ∧ σ 2 (σ 0 t).toNat - ldF Ab σ (σ 0 t) < 0) then -1 else σ 0 t)
  else if c = 1 then (if (0 ≤ σ 0 t ∧ σ 0 t < (i : Int)) ∧ (σ 3 (σ 0 t).toNat = -1 ∧ σ 2 (σ 0 t).toNat - ldF Ab σ (σ 0 t) < 0) then -1 else σ 1 t)
  else if t < i then sD Ab m σ c t else σ c t
theorem mxP_0 (Ab : Mem) (m : Int) (σ : Mem) : mxP Ab m σ 0 = σ := by
  funext c t
  unfold mxP
  by_cases h0 : c = 0
  · rw [if_pos h0, if_neg (by omega), h0]
  · rw [if_neg h0]
    by_cases h1 : c = 1
    · rw [if_pos h1, if_neg (by omega), h1]
    · rw [if_neg h1, if_neg (by omega)]
theorem sC_out {Ab σ : Mem} {tm : Int} (ho : HallOK Ab) (hl : LoanOK Ab 11 (Ab 10 5)) (t : Nat) : ∀ i, i ≤ nL Ab → (sC Ab tm σ i 0 t = -2 ↔ σ 0 t = -2)
  | 0, _ => Iff.rfl
  | i + 1, h => by
    have ih := sC_out (tm := tm) (σ := σ) ho hl t i (by omega)
    have lo := lok hl (i := i) (by unfold nL at h; omega)
    have ow := (ho.2.2.2.2.2.2.1 (Ab 11 i).toNat (by unfold nT; omega)).1
    rw [sC]
    split
    · rename_i hc
      rw [up_ne (by omega)]
      by_cases e : t = (Ab 11 i).toNat
      · subst e
        rw [up_eq, ← ih]
        omega
      · rw [up_ne (by omega)]
        exact ih
    · exact ih
theorem stp_out {Ab σ : Mem} {wo m tm : Int} (ho : HallOK Ab) (hl : LoanOK Ab 11 (Ab 10 5)) {t : Nat} (ht : t < nT Ab) : stp Ab wo m tm σ 0 t = -2 ↔ (σ 0 t = -2 ∧ thC Ab wo t ≠ m) ∧ ¬ (0 ≤ σ 1 t ∧ Ab 14 (σ 1 t).toNat = tm) := by
  have hmo := hm_ok (σ := sA Ab wo m σ) ho ht
  have hmo2 := hm_ok (σ := σ) ho ht
  have e1 : sD Ab m (sC Ab tm (sB' Ab tm (sA Ab wo m σ)) (nL Ab)) 0 t = -2 ↔ sC Ab tm (sB' Ab tm (sA Ab wo m σ)) (nL Ab) 0 t = -2 := by
    generalize sC Ab tm (sB' Ab tm (sA Ab wo m σ)) (nL Ab) = ρ
    show (if 0 ≤ ρ 0 t ∧ (ρ 3 (ρ 0 t).toNat = -1 ∧ ρ 2 (ρ 0 t).toNat - ldF Ab ρ (ρ 0 t) < 0) then -1 else ρ 0 t) = -2 ↔ _
    split <;> omega
  rw [show stp Ab wo m tm σ 0 t = sD Ab m (sC Ab tm (sB' Ab tm (sA Ab wo m σ)) (nL Ab)) 0 t from rfl]
  rw [e1, sC_out ho hl t _ (Nat.le_refl _)]
  show (if 0 ≤ σ 1 t ∧ Ab 14 (σ 1 t).toNat = tm then hm Ab (sA Ab wo m σ) t else sA Ab wo m σ 0 t) = -2 ↔ _
  by_cases q : 0 ≤ σ 1 t ∧ Ab 14 (σ 1 t).toNat = tm
  · rw [if_pos q]
    constructor
    · intro z; omega
    · intro z; exact absurd q z.2
  · rw [if_neg q]
    show (if σ 0 t = -2 ∧ thC Ab wo t = m then hm Ab σ t else σ 0 t) = -2 ↔ _
    by_cases q2 : σ 0 t = -2 ∧ thC Ab wo t = m
    · rw [if_pos q2]; omega
    · rw [if_neg q2]
      constructor
      · intro z; exact ⟨⟨z, fun z2 => q2 ⟨z, z2⟩⟩, q⟩
      · intro z; exact z.1.1
theorem OU_stp {Ab σ : Mem} {wo m tm : Int} (ho : HallOK Ab) (hl : LoanOK Ab 11 (Ab 10 5)) (hg : SigOK Ab σ) (h : OU Ab wo m σ) : OU Ab wo (m + 1) (stp Ab wo m tm σ) := by
  intro t ht hw
  rw [stp_out ho hl ht, h t ht hw]
  have ec : thC Ab wo t = thF Ab wo t := by unfold thC; rw [if_neg hw]
  rw [ec]
  constructor
  · intro z; exact ⟨z.1.1.1, by omega⟩
  · intro z
    refine ⟨⟨⟨z.1, by omega⟩, by omega⟩, fun q => ?_⟩
    rcases hg.2.1 t ht with b | ⟨j, hj, b1, b2, b3⟩
    · omega
    · have := (h t ht hw).mpr ⟨z.1, by omega⟩
      have lo := lok hl (i := j) (by unfold nL at hj; omega)
      omega
theorem OU_0 {Ab : Mem} {wo : Int} (ho : HallOK Ab) : OU Ab wo 0 (sit0 Ab wo) := by
  intro t ht hw
  have oi := ho.2.2.2.2.2.2.1 t ht
  have db := dfr_bd ho wo t (Ab 2 t) (by omega)
  have pb := pass_bd ho ht
  have tb : 0 ≤ thF Ab wo t := by
    unfold thF
    split <;> omega
  show (if Ab 2 t = -1 ∧ (t : Int) ≠ wo then Ab 0 t else -2) = -2 ↔ _
  by_cases q : Ab 2 t = -1
  · rw [if_pos ⟨q, hw⟩]
    constructor
    · intro z; omega
    · intro z; exact absurd q z.1
  · rw [if_neg (fun z => q z.1)]
    exact ⟨fun _ => ⟨q, tb⟩, fun _ => rfl⟩
theorem OU_run {Ab : Mem} (ho : HallOK Ab) (hl : LoanOK Ab 11 (Ab 10 5)) (wo : Int) (tmf : Nat → Int) : ∀ n : Nat, n ≤ 999 → OU Ab wo (n : Int) (runT Ab wo tmf n)
  | 0, _ => OU_0 ho
  | n + 1, h => by
    have := OU_stp (tm := tmf n) ho hl (runT_ok ho hl wo tmf n (by omega)) (OU_run ho hl wo tmf n (by omega))
    rw [runT]
    exact this
