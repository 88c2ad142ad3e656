/-! TOOLS of the pure level -/
theorem an {a b : Prop} (h1 : a) (h2 : b) : a ∧ b := ⟨h1, h2⟩
theorem br {a b c : Prop} (h1 : c → a) (h2 : ¬ c → b) : (c → a) ∧ (¬ c → b) := ⟨h1, h2⟩
/-- a branch that is taken, one that isn't -/
theorem bt {a b c : Prop} (hc : c) (h1 : a) : (c → a) ∧ (¬ c → b) := ⟨fun _ => h1, fun q => absurd hc q⟩
theorem bf {a b c : Prop} (hc : ¬ c) (h2 : b) : (c → a) ∧ (¬ c → b) := ⟨fun q => absurd q hc, fun _ => h2⟩
theorem dn {P : Nat → Prop} {N : Nat} (h0 : P N) (hs : ∀ i, i < N → P (i + 1) → P i) : ∀ i, i ≤ N → P i := by
  intro i hi
  obtain ⟨d, rfl⟩ : ∃ d, N = i + d := ⟨N - i, by omega⟩
  induction d generalizing i with
  | zero => exact h0
  | succ d ih =>
    refine hs i (by omega) ?_
    have e : i + (d + 1) = i + 1 + d := by omega
    rw [e] at h0 hs
    exact ih (i + 1) h0 hs (by omega)
theorem w1 {x y : Int} (h0 : -2147483648 ≤ y) (h : y < 2147483648) (e : x = y) : w32 x = y := by
  subst e
  exact w32_id ⟨h0, h⟩
theorem wn {x : Int} {n : Nat} (e : x = (n : Int)) (h : n < 2147483647) : w32 (x + 1) = ((n + 1 : Nat) : Int) := w1 (by omega) (by omega) (by omega)
def sumN (f : Nat → Int) : Nat → Int
  | 0 => 0
  | n + 1 => sumN f n + f n
theorem sumN_cong {f g : Nat → Int} : ∀ {n : Nat}, (∀ i, i < n → f i = g i) → sumN f n = sumN g n
  | 0, _ => rfl
  | n + 1, h => by rw [sumN, sumN, sumN_cong (fun i hi => h i (by omega)), h n (by omega)]
theorem sumN_bd {f : Nat → Int} {c : Int} (hc : 0 ≤ c) : ∀ {n : Nat}, (∀ i, i < n → 0 ≤ f i ∧ f i ≤ c) → 0 ≤ sumN f n ∧ sumN f n ≤ n * c
  | 0, _ => by simp [sumN]
  | n + 1, h => by
    have ih := sumN_bd hc (n := n) (fun i hi => h i (by omega))
    have h1 := h n (by omega)
    have e : ((n + 1 : Nat) : Int) * c = n * c + c := by rw [Int.natCast_add, Int.add_mul]; simp
    rw [sumN, e]
    omega
theorem sumN_mono {f : Nat → Int} : ∀ {n m : Nat}, n ≤ m → (∀ i, i < m → 0 ≤ f i) → sumN f n ≤ sumN f m := by
  intro n m h hf
  obtain ⟨d, rfl⟩ : ∃ d, m = n + d := ⟨m - n, by omega⟩
  clear h
  induction d with
  | zero => exact Int.le_refl _
  | succ d ih =>
    have := ih (fun i hi => hf i (by omega))
    have h1 := hf (n + d) (by omega)
    show sumN f n ≤ sumN f (n + d) + f (n + d)
    omega
theorem sumN_add (f g : Nat → Int) : ∀ n, sumN (fun i => f i + g i) n = sumN f n + sumN g n
  | 0 => rfl
  | n + 1 => by rw [sumN, sumN, sumN, sumN_add f g n]; omega
theorem sumN_0 {f : Nat → Int} : ∀ {n : Nat}, (∀ i, i < n → f i = 0) → sumN f n = 0
  | 0, _ => rfl
  | n + 1, h => by rw [sumN, sumN_0 (fun i hi => h i (by omega)), h n (by omega)]; rfl
theorem ak_of {kd a n x y : Nat} {i : Int} (h : SH a = (kd, n, x, y)) (h0 : 0 ≤ i) (h1 : i < (n : Int)) : AK kd a i := ⟨by rw [h], h0, by rw [h]; exact h1⟩
/-! bits -/
theorem s_lo : ∀ n, n < 32 → ((Int32.ofInt ((n : Nat) : Int) &&& 31).toBitVec.smod 32).toNat = n := by decide +kernel
theorem shrI_n {x : Int} (hx : okI x) {n : Nat} (hn : n < 32) : shrI x (n : Int) = x / 2 ^ n := by
  unfold shrI
  rw [pk_shr _ _ n (s_lo n hn), to_ok hx, Int.shiftRight_eq_div_pow]
  rfl
theorem shl1 : ∀ n, n < 31 → shlI 1 ((n : Nat) : Int) = ((2 ^ n : Nat) : Int) := by decide +kernel
theorem ofI_nI (n : Nat) : Int32.ofInt (n : Int) = nI n := rfl
theorem nI_and (a b : Nat) : nI a &&& nI b = nI (a &&& b) := by
  apply Int32.toBitVec_inj.mp
  simp only [nI, Int32.toBitVec_and]
  apply BitVec.eq_of_toNat_eq
  simp [Int32.toBitVec_ofNat', BitVec.toNat_and, BitVec.toNat_ofNat, Nat.and_mod_two_pow]
theorem nI_or (a b : Nat) : nI a ||| nI b = nI (a ||| b) := by
  apply Int32.toBitVec_inj.mp
  simp only [nI, Int32.toBitVec_or]
  apply BitVec.eq_of_toNat_eq
  simp [Int32.toBitVec_ofNat', BitVec.toNat_or, BitVec.toNat_ofNat, Nat.or_mod_two_pow]
theorem nI_xor (a b : Nat) : nI a ^^^ nI b = nI (a ^^^ b) := by
  apply Int32.toBitVec_inj.mp
  simp only [nI, Int32.toBitVec_xor]
  apply BitVec.eq_of_toNat_eq
  simp [Int32.toBitVec_ofNat', BitVec.toNat_xor, BitVec.toNat_ofNat, Nat.xor_mod_two_pow]
theorem andI_n {a b : Nat} (ha : a < 2147483648) : andI (a : Int) (b : Int) = ((a &&& b : Nat) : Int) := by
  unfold andI
  rw [ofI_nI, ofI_nI, nI_and, nI_toInt]
  exact Nat.lt_of_le_of_lt Nat.and_le_left ha
theorem orI_n {a b : Nat} (ha : a < 2147483648) (hb : b < 2147483648) : orI (a : Int) (b : Int) = ((a ||| b : Nat) : Int) := by
  unfold orI
  rw [ofI_nI, ofI_nI, nI_or, nI_toInt]
  exact Nat.or_lt_two_pow (n := 31) ha hb
theorem xorI_n {a b : Nat} (ha : a < 2147483648) (hb : b < 2147483648) : xorI (a : Int) (b : Int) = ((a ^^^ b : Nat) : Int) := by
  unfold xorI
  rw [ofI_nI, ofI_nI, nI_xor, nI_toInt]
  exact Nat.xor_lt_two_pow (n := 31) ha hb
theorem and255 {x : Int} (hx : okI x) : andI x 255 = x % 256 := by
  unfold andI
  have h1 := pk_and (Int32.ofInt x) (m := Int32.ofInt 255) 8 (by decide)
  rw [h1, nI_toInt (by omega)]
  have h2 : (Int32.ofInt x).toBitVec.toNat = (x % 4294967296).toNat := by
    rw [show (Int32.ofInt x).toBitVec = BitVec.ofInt 32 x from rfl, BitVec.toNat_ofInt]
    rfl
  rw [h2]
  omega
def bitB (x i : Int) : Bool := x.toNat.testBit i.toNat
theorem bit_and {x i : Int} (hx : 0 ≤ x) (hx2 : x < 2147483648) (hi : 0 ≤ i) (hi2 : i < 32) : andI (shrI x i) 1 = if bitB x i then 1 else 0 := by
  obtain ⟨n, rfl⟩ : ∃ n : Nat, x = n := ⟨x.toNat, by omega⟩
  obtain ⟨j, rfl⟩ : ∃ n : Nat, i = n := ⟨i.toNat, by omega⟩
  rw [shrI_n ⟨by omega, by omega⟩ (by omega)]
  have e : ((n : Int) / 2 ^ j) = ((n / 2 ^ j : Nat) : Int) := by simp
  have e1 : (1 : Int) = ((1 : Nat) : Int) := rfl
  have hl : n / 2 ^ j < 2147483648 := Nat.lt_of_le_of_lt (Nat.div_le_self _ _) (by omega)
  rw [e]
  conv => lhs; rw [e1]
  rw [andI_n hl]
  unfold bitB
  simp only [Int.toNat_natCast, Nat.testBit_eq_decide_div_mod_eq, Nat.and_one_is_mod]
  have h2 : n / 2 ^ j % 2 < 2 := Nat.mod_lt _ (by decide)
  by_cases h : n / 2 ^ j % 2 = 1
  · simp [h]
  · have h0 : n / 2 ^ j % 2 = 0 := by omega
    simp [h0]
