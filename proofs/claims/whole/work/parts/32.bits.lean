/-! sets as bits -/
theorem low_spec : ∀ f s, 0 < s → s < 2 ^ f → s.testBit (lowF f s) = true ∧ lowF f s < f ∧ ∀ i, (s &&& (s - 1)).testBit i = (s.testBit i && decide (i ≠ lowF f s))
  | 0, s, h0, h1 => by simp at h1; omega
  | f + 1, s, h0, h1 => by
    rw [Nat.pow_succ] at h1
    rw [lowF]
    by_cases ho : s % 2 = 1
    · rw [if_pos ho]
      refine ⟨by rw [Nat.testBit_zero]; simp [ho], by omega, fun i => ?_⟩
      cases i with
      | zero => rw [Nat.testBit_and, Nat.testBit_zero, Nat.testBit_zero]; simp; omega
      | succ i =>
        have e : (s - 1) / 2 = s / 2 := by omega
        rw [Nat.testBit_and, Nat.testBit_succ, Nat.testBit_succ, e]
        simp
    · rw [if_neg ho]
      obtain ⟨h2, h3, h4⟩ := low_spec f (s / 2) (by omega) (by omega)
      have e : (s - 1) / 2 = s / 2 - 1 := by omega
      refine ⟨by rw [Nat.add_comm, Nat.testBit_succ]; exact h2, by omega, fun i => ?_⟩
      cases i with
      | zero => rw [Nat.testBit_and, Nat.testBit_zero, Nat.testBit_zero]; simp [ho]
      | succ i =>
        have h5 := h4 i
        rw [Nat.testBit_and] at h5
        rw [Nat.testBit_and, Nat.testBit_succ, Nat.testBit_succ, e, h5]
        congr 1
        apply decide_eq_decide.mpr
        omega
theorem low_sp {s : Nat} (h0 : 0 < s) (h1 : s < 16384) : s.testBit (lowB s) = true ∧ lowB s < 14 ∧ ∀ i, (s &&& (s - 1)).testBit i = (s.testBit i && decide (i ≠ lowB s)) := low_spec 14 s h0 h1
theorem bit_lt {s n i : Nat} (h : s < 2 ^ n) (hb : s.testBit i = true) : i < n := by
  refine Nat.lt_of_not_le (fun q => ?_)
  rw [Nat.testBit_lt_two_pow (Nat.lt_of_lt_of_le h (Nat.pow_le_pow_right (by decide) q))] at hb
  exact absurd hb (by decide)
theorem and_lt {s n : Nat} (h : s < 2 ^ n) (m : Nat) : s &&& m < 2 ^ n := Nat.lt_of_le_of_lt Nat.and_le_left h
theorem bz (i : Nat) : (0 : Nat).testBit i = false := Nat.zero_testBit i
theorem b2p (n i : Nat) : (2 ^ n).testBit i = decide (n = i) := Nat.testBit_two_pow
theorem pw_lt {i n : Nat} (h : i < n) : 2 ^ i < 2 ^ n := Nat.pow_lt_pow_right (by decide) h
theorem or_lt {a b n : Nat} (ha : a < 2 ^ n) (hb : b < 2 ^ n) : a ||| b < 2 ^ n := Nat.or_lt_two_pow ha hb
theorem xor_lt {a b n : Nat} (ha : a < 2 ^ n) (hb : b < 2 ^ n) : a ^^^ b < 2 ^ n := Nat.xor_lt_two_pow ha hb
theorem bitN (x i : Nat) : bitB (x : Int) (i : Int) = x.testBit i := rfl
/-- what a set weighs -/
def wS (w : Nat → Int) (s n : Nat) : Int := sumN (fun i => if s.testBit i = true then w i else 0) n
theorem sumN_one {f g : Nat → Int} {j : Nat} {c : Int} : ∀ {n : Nat}, j < n → g j = f j + c → (∀ i, i < n → i ≠ j → g i = f i) → sumN g n = sumN f n + c
  | 0, h, _, _ => by omega
  | n + 1, h, h1, h2 => by
    rw [sumN, sumN]
    by_cases q : j = n
    · subst q
      rw [sumN_cong (f := g) (g := f) (fun i hi => h2 i (by omega) (by omega)), h1]
      omega
    · rw [sumN_one (n := n) (by omega) h1 (fun i hi => h2 i (by omega)), h2 n (by omega) (fun z => q z.symm)]
      omega
theorem wS_0 (w : Nat → Int) (n : Nat) : wS w 0 n = 0 := sumN_0 (fun i _ => by rw [bz]; rfl)
theorem wS_low {w : Nat → Int} {s n : Nat} (h0 : 0 < s) (h1 : s < 2 ^ n) (hn : n ≤ 14) : wS w s n = wS w (s &&& (s - 1)) n + w (lowB s) := by
  have h2 : 2 ^ n ≤ 2 ^ 14 := Nat.pow_le_pow_right (by decide) hn
  obtain ⟨h3, h4, h5⟩ := low_sp h0 (by omega)
  refine sumN_one (j := lowB s) (bit_lt h1 h3) ?_ (fun i hi hj => ?_)
  · simp only [h5, h3]
    simp
  · simp only [h5]
    simp [hj]
theorem and_pred_lt {s : Nat} (h0 : 0 < s) : s &&& (s - 1) < s := Nat.lt_of_le_of_lt Nat.and_le_right (by omega)
theorem wS_bd {w : Nat → Int} {c : Int} (hc : 0 ≤ c) {n : Nat} (h : ∀ i, i < n → 0 ≤ w i ∧ w i ≤ c) (s : Nat) : 0 ≤ wS w s n ∧ wS w s n ≤ n * c := sumN_bd hc (fun i hi => by
  have := h i hi
  split <;> omega)
/-- a sum over rows and columns -/
theorem sumN_swap (f : Nat → Nat → Int) (m : Nat) : ∀ n, sumN (fun i => sumN (f i) m) n = sumN (fun j => sumN (fun i => f i j) n) m
  | 0 => (sumN_0 (fun _ _ => rfl)).symm
  | n + 1 => by
    rw [sumN, sumN_swap f m n, ← sumN_add]
    rfl
theorem sumN_pick {c : Int} {k : Int} : ∀ {n : Nat}, 0 ≤ k → k < (n : Int) → sumN (fun p => if k = (p : Int) then c else 0) n = c
  | 0, h, h1 => by omega
  | n + 1, h, h1 => by
    rw [sumN]
    by_cases q : k = (n : Int)
    · rw [if_pos q, sumN_0 (fun i hi => if_neg (by omega))]
      omega
    · rw [if_neg q, sumN_pick h (by omega)]
      omega
/-- weighing owners is weighing things -/
theorem own_swap {ow w : Nat → Int} {c : Nat → Bool} {np nt : Nat} (h : ∀ t, t < nt → 0 ≤ ow t ∧ ow t < (np : Int)) :
    sumN (fun p => if c p = true then sumN (fun t => if ow t = (p : Int) then w t else 0) nt else 0) np = sumN (fun t => if c (ow t).toNat = true then w t else 0) nt := by
  have e : ∀ p, p < np → (if c p = true then sumN (fun t => if ow t = (p : Int) then w t else 0) nt else 0) = sumN (fun t => if ow t = (p : Int) then (if c (ow t).toNat = true then w t else 0) else 0) nt := by
    intro p hp
    by_cases q : c p = true
    · rw [if_pos q]
      refine sumN_cong (fun t ht => ?_)
      by_cases q2 : ow t = (p : Int)
      · rw [if_pos q2, if_pos q2, q2, Int.toNat_natCast, if_pos q]
      · rw [if_neg q2, if_neg q2]
    · rw [if_neg q]
      refine (sumN_0 (fun t ht => ?_)).symm
      by_cases q2 : ow t = (p : Int)
      · rw [if_pos q2, q2, Int.toNat_natCast, if_neg q]
      · rw [if_neg q2]
  rw [sumN_cong e, sumN_swap]
  exact sumN_cong (fun t ht => sumN_pick (h t ht).1 (h t ht).2)
