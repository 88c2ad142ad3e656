/-! what could be carried, as the reference finds it -/
theorem crN_mono (b : Int) (t : Nat) : ∀ d, crN b t ≤ crN b (t + d)
  | 0 => Nat.le_refl _
  | d + 1 => by have := crN_mono b t d; rw [← Nat.add_assoc, crN]; split <;> omega
theorem crA_st (b : Int) {t i : Nat} (h : i < crN b t) : ∀ d, crA b (t + d) i = crA b t i
  | 0 => rfl
  | d + 1 => by
    have := crN_mono b t d
    rw [← Nat.add_assoc, crA, if_neg (by omega)]
    exact crA_st b h d
theorem crA_at {b : Int} {p n : Nat} (hp : p < n) (hb : bitB b (p : Int) = true) : crN b p < crN b n ∧ crA b n (crN b p) = p := by
  have e1 : crN b (p + 1) = crN b p + 1 := by rw [crN, if_pos hb]
  have e2 : crA b (p + 1) (crN b p) = p := by rw [crA, if_pos ⟨hb, rfl⟩]
  have m := crN_mono b (p + 1) (n - (p + 1))
  have s := crA_st b (t := p + 1) (i := crN b p) (by omega) (n - (p + 1))
  rw [show p + 1 + (n - (p + 1)) = n by omega] at m s
  exact ⟨by omega, by rw [s]; exact e2⟩
theorem sbs_half {x s : Nat} (h : sbs x s) : sbs (x / 2) (s / 2) := fun b hb => by
  rw [← Nat.testBit_succ] at hb ⊢
  exact h _ hb
theorem sbs_mod {x s : Nat} (h : sbs x s) : x % 2 ≤ s % 2 := by
  by_cases q : x % 2 = 1
  · have h0 := h 0 (by rw [Nat.testBit_zero]; exact decide_eq_true q)
    rw [Nat.testBit_zero] at h0
    have := of_decide_eq_true h0
    omega
  · omega
theorem and_sbs {x s : Nat} (h : sbs x s) : x &&& s = x := by
  refine Nat.eq_of_testBit_eq (fun i => ?_)
  rw [Nat.testBit_and]
  cases q : x.testBit i with
  | true => rw [h i q]; rfl
  | false => rfl
theorem sbs_and (x s : Nat) : sbs (x &&& s) s := fun b hb => by
  rw [Nat.testBit_and, Bool.and_eq_true] at hb
  exact hb.2
theorem and_m2 (a b : Nat) : (a &&& b) % 2 = if a % 2 = 1 ∧ b % 2 = 1 then 1 else 0 := by
  have e : (a &&& b).testBit 0 = (a.testBit 0 && b.testBit 0) := Nat.testBit_and a b 0
  rw [Nat.testBit_zero, Nat.testBit_zero, Nat.testBit_zero] at e
  by_cases q : a % 2 = 1 ∧ b % 2 = 1
  · rw [if_pos q]
    rw [decide_eq_true q.1, decide_eq_true q.2] at e
    exact of_decide_eq_true e
  · rw [if_neg q]
    have : decide ((a &&& b) % 2 = 1) = false := by
      rw [e]
      by_cases q1 : a % 2 = 1
      · rw [decide_eq_true q1, decide_eq_false (fun z => q ⟨q1, z⟩)]; rfl
      · rw [decide_eq_false q1]; rfl
    have := of_decide_eq_false this
    omega
/-- the next lower part of a set -/
theorem sub_next : ∀ (f : Nat) {x s S : Nat}, S < 2 ^ f → sbs s S → sbs x S → x < s → x ≤ (s - 1) &&& S
  | 0, x, s, S, hS, hs, hx, hl => by
    simp at hS
    subst hS
    have := and_sbs hs
    simp at this
    omega
  | f + 1, x, s, S, hS, hs, hx, hl => by
    rw [Nat.pow_succ] at hS
    have e := and_half (s - 1) S
    have e2 := and_m2 (s - 1) S
    have mx := sbs_mod hx
    have ms := sbs_mod hs
    by_cases q : s % 2 = 1
    · have a1 : (s - 1) / 2 = s / 2 := by omega
      have a2 := and_sbs (sbs_half hs)
      rw [a1, a2] at e
      omega
    · have a1 : (s - 1) / 2 = s / 2 - 1 := by omega
      have ih := sub_next f (x := x / 2) (s := s / 2) (S := S / 2) (by omega) (sbs_half hs) (sbs_half hx) (by omega)
      rw [a1] at e
      by_cases q2 : S % 2 = 1
      · rw [if_pos (by omega)] at e2
        omega
      · omega
theorem not_and {a b : Nat} (ha : a < 2147483648) (h : sbs b a) : andI (a : Int) (xorI (b : Int) (-1)) = ((a ^^^ b : Nat) : Int) := by
  have hb : b < 2147483648 := by
    have := and_sbs h
    have h2 : b &&& a ≤ a := Nat.and_le_right
    omega
  have hx : a ^^^ b < 2147483648 := Nat.xor_lt_two_pow (n := 31) ha hb
  unfold andI xorI
  rw [Int32.ofInt_toInt, ofI_nI, ofI_nI]
  have e : nI a &&& (nI b ^^^ Int32.ofInt (-1)) = nI (a ^^^ b) := by
    apply Int32.toBitVec_inj.mp
    simp only [nI, Int32.toBitVec_and, Int32.toBitVec_xor]
    apply BitVec.eq_of_getLsbD_eq
    intro i hi
    have m1 : (Int32.ofInt (-1)).toBitVec = BitVec.allOnes 32 := by decide
    rw [m1]
    simp only [Int32.toBitVec_ofNat', BitVec.getLsbD_and, BitVec.getLsbD_xor, BitVec.getLsbD_ofNat, BitVec.getLsbD_allOnes, hi, decide_true, Bool.true_and, Nat.testBit_xor]
    have hh := h i
    cases qa : a.testBit i <;> cases qb : b.testBit i
    · rfl
    · rw [hh qb] at qa; exact absurd qa (by decide)
    · rfl
    · rfl
  rw [e, nI_toInt hx]
theorem and_pm {a s : Nat} (h0 : 0 < a) (h1 : a < 100000) : andI (f_sub (a : Int) 1) (s : Int) = (((a - 1) &&& s : Nat) : Int) := by
  have e : f_sub (a : Int) 1 = ((a - 1 : Nat) : Int) := w1 (by omega) (by omega) (by omega)
  rw [e]
  exact andI_n (by omega)
