/-! Hollows: the sets of things, one by one and by Gray's walk -/
theorem xlow_spec : ∀ f s, 0 < s → s < 2 ^ f → ∀ i, (s ^^^ (s - 1)).testBit i = decide (i ≤ lowF f s)
  | 0, s, h0, h1 => by simp at h1; omega
  | f + 1, s, h0, h1 => by
    rw [Nat.pow_succ] at h1
    rw [lowF]
    intro i
    by_cases ho : s % 2 = 1
    · rw [if_pos ho]
      cases i with
      | zero =>
        rw [Nat.testBit_xor, Nat.testBit_zero, Nat.testBit_zero]
        have : (s - 1) % 2 = 0 := by omega
        simp [ho, this]
      | succ i =>
        have e : (s - 1) / 2 = s / 2 := by omega
        rw [Nat.testBit_xor, Nat.testBit_succ, Nat.testBit_succ, e]
        simp
    · rw [if_neg ho]
      have h4 := xlow_spec f (s / 2) (by omega) (by omega)
      have e : (s - 1) / 2 = s / 2 - 1 := by omega
      cases i with
      | zero =>
        rw [Nat.testBit_xor, Nat.testBit_zero, Nat.testBit_zero]
        have : (s - 1) % 2 = 1 := by omega
        simp [ho, this]
      | succ i =>
        have h5 := h4 i
        rw [Nat.testBit_xor] at h5
        rw [Nat.testBit_xor, Nat.testBit_succ, Nat.testBit_succ, e, h5]
        apply decide_eq_decide.mpr
        omega
def gray (k : Nat) : Nat := k ^^^ (k / 2)
theorem gray_bit (k i : Nat) : (gray k).testBit i = (k.testBit i ^^ k.testBit (i + 1)) := by
  unfold gray
  rw [Nat.testBit_xor, Nat.testBit_succ]
theorem gray_lt {k n : Nat} (h : k < 2 ^ n) : gray k < 2 ^ n := xor_lt h (Nat.lt_of_le_of_lt (Nat.div_le_self _ _) h)
theorem gray_step {k : Nat} (h0 : 0 < k) (h1 : k < 16384) : gray k = gray (k - 1) ^^^ 2 ^ lowB k := by
  refine Nat.eq_of_testBit_eq (fun i => ?_)
  have x1 := xlow_spec 14 k h0 h1 i
  have x2 := xlow_spec 14 k h0 h1 (i + 1)
  rw [Nat.testBit_xor] at x1 x2
  rw [Nat.testBit_xor, gray_bit, gray_bit, b2p]
  have e : decide (lowB k = i) = (decide (i ≤ lowF 14 k) ^^ decide (i + 1 ≤ lowF 14 k)) := by
    unfold lowB
    by_cases q1 : i ≤ lowF 14 k <;> by_cases q2 : i + 1 ≤ lowF 14 k <;> by_cases q3 : lowF 14 k = i <;> simp [q1, q2, q3] <;> omega
  rw [e, ← x1, ← x2]
  cases k.testBit i <;> cases (k - 1).testBit i <;> cases k.testBit (i + 1) <;> cases (k - 1).testBit (i + 1) <;> rfl
theorem sumN_split (f : Nat → Int) (a : Nat) : ∀ b, sumN f (a + b) = sumN f a + sumN (fun j => f (a + j)) b
  | 0 => by simp [sumN]
  | b + 1 => by
    rw [← Nat.add_assoc, sumN, sumN_split f a b, sumN]
    omega
theorem xor_hi {m x : Nat} (h : x < 2 ^ m) : 2 ^ m ^^^ x = 2 ^ m + x := by
  refine Nat.eq_of_testBit_eq (fun i => ?_)
  rw [Nat.testBit_xor, b2p]
  rcases Nat.lt_trichotomy i m with q | q | q
  · rw [Nat.testBit_two_pow_add_gt q, decide_eq_false (by omega)]
    simp
  · subst q
    rw [Nat.testBit_two_pow_add_eq]
    simp
  · have h2 : 2 ^ m + x < 2 ^ (m + 1) := by rw [Nat.pow_succ]; omega
    have h3 : 2 ^ (m + 1) ≤ 2 ^ i := Nat.pow_le_pow_right (by decide) q
    rw [Nat.testBit_lt_two_pow (Nat.lt_of_lt_of_le h2 h3), Nat.testBit_lt_two_pow (by omega), decide_eq_false (by omega)]
    rfl
theorem xor_sum (d : Nat → Int) (m : Nat) : sumN (fun x => d (2 ^ m ^^^ x)) (2 ^ (m + 1)) = sumN d (2 ^ (m + 1)) := by
  have e : 2 ^ (m + 1) = 2 ^ m + 2 ^ m := by rw [Nat.pow_succ]; omega
  rw [e, sumN_split, sumN_split]
  have h1 : sumN (fun x => d (2 ^ m ^^^ x)) (2 ^ m) = sumN (fun j => d (2 ^ m + j)) (2 ^ m) := sumN_cong (fun i hi => by rw [xor_hi hi])
  have h2 : sumN (fun j => d (2 ^ m ^^^ (2 ^ m + j))) (2 ^ m) = sumN d (2 ^ m) := sumN_cong (fun i hi => by rw [← xor_hi hi, ← Nat.xor_assoc, Nat.xor_self, Nat.zero_xor])
  rw [h1, h2]
  omega
theorem gray_hi {n j : Nat} (h : j < 2 ^ n) : gray (2 ^ n + j) = 2 ^ n + (2 ^ n / 2 ^^^ gray j) := by
  have hu : 2 ^ n / 2 < 2 ^ n := Nat.div_lt_self (Nat.two_pow_pos n) (by decide)
  rw [← xor_hi (xor_lt hu (gray_lt h)), ← xor_hi h]
  unfold gray
  have e : (2 ^ n ^^^ j) / 2 = 2 ^ n / 2 ^^^ j / 2 := by
    refine Nat.eq_of_testBit_eq (fun i => ?_)
    rw [← Nat.testBit_succ, Nat.testBit_xor, Nat.testBit_xor, Nat.testBit_succ, Nat.testBit_succ]
  rw [e]
  refine Nat.eq_of_testBit_eq (fun i => ?_)
  simp only [Nat.testBit_xor]
  cases (2 ^ n).testBit i <;> cases j.testBit i <;> cases (2 ^ n / 2).testBit i <;> cases (j / 2).testBit i <;> rfl
theorem gray_sum : ∀ n (c : Nat → Int), sumN (fun j => c (gray j)) (2 ^ n) = sumN c (2 ^ n)
  | 0, c => by simp [sumN, gray]
  | n + 1, c => by
    have e : 2 ^ (n + 1) = 2 ^ n + 2 ^ n := by rw [Nat.pow_succ]; omega
    rw [e, sumN_split, sumN_split, gray_sum n c]
    congr 1
    rw [sumN_cong (g := fun j => (fun x => c (2 ^ n + (2 ^ n / 2 ^^^ x))) (gray j)) (fun i hi => by rw [gray_hi hi]), gray_sum n (fun x => c (2 ^ n + (2 ^ n / 2 ^^^ x)))]
    cases n with
    | zero => rfl
    | succ m =>
      have e2 : 2 ^ (m + 1) / 2 = 2 ^ m := by rw [Nat.pow_succ]; omega
      rw [e2]
      exact xor_sum (fun x => c (2 ^ (m + 1) + x)) m
theorem gray_all {n x : Nat} (h : x < 2 ^ n) : ∃ j, j < 2 ^ n ∧ gray j = x := by
  refine Classical.byContradiction (fun q => ?_)
  have h1 := gray_sum n (fun y => if (x : Int) = (y : Int) then 1 else 0)
  rw [sumN_pick (by omega) (by omega), sumN_0 (fun i hi => if_neg (fun z => q ⟨i, hi, by omega⟩))] at h1
  exact absurd h1 (by decide)
def sg (Ab : Mem) (v t : Nat) : Int := if bitB (Ab 15 v) (Ab 0 t) = true then 1 else if bitB (Ab 16 v) (Ab 0 t) = true then -1 else 0
def hw (Ab : Mem) (s t : Nat) : Int := if s.testBit t = true then Ab 1 t / 2 else Ab 1 t
def ovF (Ab : Mem) (v s : Nat) : Int := sumN (fun t => sg Ab v t * hw Ab s t) (nT Ab) - Ab 17 v
def nV (Ab : Mem) : Nat := (Ab 10 6).toNat
def gdH (Ab : Mem) (s : Nat) : Bool := decide (∀ v, v < nV Ab → ovF Ab v s = 0)
def hN (Ab : Mem) (k : Nat) : Int := sumN (fun s => if gdH Ab s = true then 1 else 0) k
def hA (Ab : Mem) : Nat → Nat
  | 0 => 2 ^ nT Ab - 1
  | k + 1 => if gdH Ab k = true then hA Ab k &&& k else hA Ab k
def hY (Ab : Mem) : Nat → Nat
  | 0 => 0
  | k + 1 => if gdH Ab k = true then hY Ab k ||| k else hY Ab k
def hB (Ab : Mem) : Nat → Int
  | 0 => -1
  | k + 1 => if gdH Ab k = true ∧ (hB Ab k = -1 ∨ popc k < popc (hB Ab k).toNat) then (k : Int) else hB Ab k
def lexLe (f s : Nat) : Prop := popc f < popc s ∨ (popc f = popc s ∧ f ≤ s)
/-- what is known once the first sets of a walk are looked at -/
def HI (Ab : Mem) (g : Nat → Nat) (K : Nat) (st ia iy fw : Int) : Prop :=
  st = sumN (fun j => if gdH Ab (g j) = true then 1 else 0) K ∧
  (∃ a : Nat, ia = (a : Int) ∧ a < 2 ^ nT Ab ∧ ∀ t, t < nT Ab → (a.testBit t = true ↔ ∀ j, j < K → gdH Ab (g j) = true → (g j).testBit t = true)) ∧
  (∃ y : Nat, iy = (y : Int) ∧ y < 2 ^ nT Ab ∧ ∀ t, t < nT Ab → (y.testBit t = true ↔ ∃ j, j < K ∧ gdH Ab (g j) = true ∧ (g j).testBit t = true)) ∧
  ((∃ j, j < K ∧ gdH Ab (g j) = true) → ∃ f : Nat, fw = (f : Int) ∧ f < 2 ^ nT Ab ∧ gdH Ab f = true ∧ ∀ j, j < K → gdH Ab (g j) = true → lexLe f (g j))
theorem hB_sp (Ab : Mem) : ∀ k, (hB Ab k = -1 ∧ ∀ s, s < k → gdH Ab s = false) ∨ ∃ f : Nat, hB Ab k = (f : Int) ∧ f < k ∧ gdH Ab f = true ∧ ∀ s, s < k → gdH Ab s = true → lexLe f s
  | 0 => Or.inl ⟨rfl, fun s hs => by omega⟩
  | k + 1 => by
    rcases hB_sp Ab k with ⟨h1, h2⟩ | ⟨f, h1, h2, h3, h4⟩
    · by_cases q : gdH Ab k = true
      · refine Or.inr ⟨k, ?_, by omega, q, fun s hs hg => ?_⟩
        · rw [hB, if_pos ⟨q, Or.inl h1⟩]
        · by_cases e : s = k
          · subst e; exact Or.inr ⟨rfl, Nat.le_refl _⟩
          · rw [h2 s (by omega)] at hg; exact absurd hg (by decide)
      · refine Or.inl ⟨?_, fun s hs => ?_⟩
        · rw [hB, if_neg (fun z => q z.1)]; exact h1
        · by_cases e : s = k
          · subst e; exact Bool.eq_false_iff.mpr q
          · exact h2 s (by omega)
    · by_cases q : gdH Ab k = true ∧ popc k < popc f
      · refine Or.inr ⟨k, ?_, by omega, q.1, fun s hs hg => ?_⟩
        · rw [hB, h1, if_pos ⟨q.1, Or.inr (by rw [Int.toNat_natCast]; exact q.2)⟩]
        · by_cases e : s = k
          · subst e; exact Or.inr ⟨rfl, Nat.le_refl _⟩
          · rcases h4 s (by omega) hg with h5 | h5
            · exact Or.inl (by omega)
            · exact Or.inl (by omega)
      · refine Or.inr ⟨f, ?_, by omega, h3, fun s hs hg => ?_⟩
        · rw [hB, h1, if_neg]
          rintro ⟨z1, z2 | z2⟩
          · omega
          · rw [Int.toNat_natCast] at z2; exact q ⟨z1, z2⟩
        · by_cases e : s = k
          · subst e
            have : ¬ popc s < popc f := fun z => q ⟨hg, z⟩
            by_cases e2 : popc f = popc s
            · exact Or.inr ⟨e2, by omega⟩
            · exact Or.inl (by omega)
          · exact h4 s (by omega) hg
theorem hA_sp (Ab : Mem) : ∀ k, hA Ab k < 2 ^ nT Ab ∧ ∀ t, t < nT Ab → ((hA Ab k).testBit t = true ↔ ∀ s, s < k → gdH Ab s = true → s.testBit t = true)
  | 0 => by
    have := Nat.two_pow_pos (nT Ab)
    refine ⟨by rw [hA]; omega, fun t ht => ⟨fun _ s hs => by omega, fun _ => ?_⟩⟩
    rw [hA, Nat.testBit_two_pow_sub_one]
    simp [ht]
  | k + 1 => by
    obtain ⟨h1, h2⟩ := hA_sp Ab k
    rw [hA]
    by_cases q : gdH Ab k = true
    · rw [if_pos q]
      refine ⟨and_lt h1 _, fun t ht => ?_⟩
      rw [Nat.testBit_and, Bool.and_eq_true, h2 t ht]
      constructor
      · intro z s hs hg
        by_cases e : s = k
        · subst e; exact z.2
        · exact z.1 s (by omega) hg
      · intro z
        exact ⟨fun s hs => z s (by omega), z k (by omega) q⟩
    · rw [if_neg q]
      refine ⟨h1, fun t ht => ?_⟩
      rw [h2 t ht]
      constructor
      · intro z s hs hg
        by_cases e : s = k
        · subst e; exact absurd hg q
        · exact z s (by omega) hg
      · intro z s hs
        exact z s (by omega)
theorem hY_sp (Ab : Mem) : ∀ k, k ≤ 2 ^ nT Ab → hY Ab k < 2 ^ nT Ab ∧ ∀ t, t < nT Ab → ((hY Ab k).testBit t = true ↔ ∃ s, s < k ∧ gdH Ab s = true ∧ s.testBit t = true)
  | 0, _ => by
    refine ⟨Nat.two_pow_pos _, fun t ht => ⟨fun z => ?_, fun ⟨s, hs, _⟩ => by omega⟩⟩
    rw [hY, bz] at z
    exact absurd z (by decide)
  | k + 1, hk => by
    obtain ⟨h1, h2⟩ := hY_sp Ab k (by omega)
    rw [hY]
    by_cases q : gdH Ab k = true
    · rw [if_pos q]
      refine ⟨or_lt h1 (by omega), fun t ht => ?_⟩
      rw [Nat.testBit_or, Bool.or_eq_true, h2 t ht]
      constructor
      · rintro (⟨s, hs, hg⟩ | z)
        · exact ⟨s, by omega, hg⟩
        · exact ⟨k, by omega, q, z⟩
      · rintro ⟨s, hs, hg, hb⟩
        by_cases e : s = k
        · subst e; exact Or.inr hb
        · exact Or.inl ⟨s, by omega, hg, hb⟩
    · rw [if_neg q]
      refine ⟨h1, fun t ht => ?_⟩
      rw [h2 t ht]
      constructor
      · rintro ⟨s, hs, hg⟩
        exact ⟨s, by omega, hg⟩
      · rintro ⟨s, hs, hg, hb⟩
        by_cases e : s = k
        · subst e; exact absurd hg q
        · exact ⟨s, by omega, hg, hb⟩
theorem bits_eq {a b n : Nat} (ha : a < 2 ^ n) (hb : b < 2 ^ n) (h : ∀ t, t < n → (a.testBit t = true ↔ b.testBit t = true)) : a = b := by
  refine Nat.eq_of_testBit_eq (fun i => ?_)
  by_cases q : i < n
  · exact Bool.eq_iff_iff.mpr (h i q)
  · have h2 : 2 ^ n ≤ 2 ^ i := Nat.pow_le_pow_right (by decide) (by omega)
    rw [Nat.testBit_lt_two_pow (by omega), Nat.testBit_lt_two_pow (by omega)]
/-- Gray's walk finds what a walk in order finds -/
theorem HI_gray {Ab : Mem} {st ia iy fw : Int} (h : HI Ab gray (2 ^ nT Ab) st ia iy fw) : st = hN Ab (2 ^ nT Ab) ∧ ia = (hA Ab (2 ^ nT Ab) : Nat) ∧ iy = (hY Ab (2 ^ nT Ab) : Nat) ∧ (hB Ab (2 ^ nT Ab) ≠ -1 → fw = hB Ab (2 ^ nT Ab)) := by
  obtain ⟨h1, ⟨a, h2, h3, h4⟩, ⟨y, h5, h6, h7⟩, h8⟩ := h
  refine ⟨?_, ?_, ?_, fun hb => ?_⟩
  · rw [h1]
    exact gray_sum (nT Ab) (fun s => if gdH Ab s = true then 1 else 0)
  · rw [h2, bits_eq h3 (hA_sp Ab (2 ^ nT Ab)).1 (fun t ht => ?_)]
    rw [h4 t ht, (hA_sp Ab (2 ^ nT Ab)).2 t ht]
    constructor
    · intro z s hs hg
      obtain ⟨j, hj, rfl⟩ := gray_all hs
      exact z j hj hg
    · intro z j hj hg
      exact z _ (gray_lt hj) hg
  · rw [h5, bits_eq h6 (hY_sp Ab (2 ^ nT Ab) (Nat.le_refl _)).1 (fun t ht => ?_)]
    rw [h7 t ht, (hY_sp Ab (2 ^ nT Ab) (Nat.le_refl _)).2 t ht]
    constructor
    · rintro ⟨j, hj, hg⟩
      exact ⟨gray j, gray_lt hj, hg⟩
    · rintro ⟨s, hs, hg⟩
      obtain ⟨j, hj, rfl⟩ := gray_all hs
      exact ⟨j, hj, hg⟩
  · rcases hB_sp Ab (2 ^ nT Ab) with ⟨q1, q2⟩ | ⟨f, q1, q2, q3, q4⟩
    · exact absurd q1 hb
    · obtain ⟨j, hj, hg⟩ := gray_all q2
      obtain ⟨f2, e1, e2, e3, e4⟩ := h8 ⟨j, hj, by rw [hg]; exact q3⟩
      have l1 := e4 j hj (by rw [hg]; exact q3)
      have l2 := q4 f2 e2 e3
      rw [hg] at l1
      rw [e1, q1]
      rcases l1 with l1 | l1 <;> rcases l2 with l2 | l2 <;> omega
theorem HI_0 (Ab : Mem) (g : Nat → Nat) (fw : Int) : HI Ab g 0 0 ((2 ^ nT Ab : Nat) - 1 : Int) 0 fw := by
  have := Nat.two_pow_pos (nT Ab)
  refine ⟨rfl, ⟨2 ^ nT Ab - 1, by omega, by omega, fun t ht => ⟨fun _ j hj => by omega, fun _ => ?_⟩⟩, ⟨0, rfl, by omega, fun t ht => ⟨fun z => ?_, fun ⟨j, hj, _⟩ => by omega⟩⟩, fun ⟨j, hj, _⟩ => by omega⟩
  · rw [Nat.testBit_two_pow_sub_one]; simp [ht]
  · rw [bz] at z; exact absurd z (by decide)
