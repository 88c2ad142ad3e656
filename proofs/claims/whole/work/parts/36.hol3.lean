theorem ov_0 (Ab : Mem) (v : Nat) : ovF Ab v 0 = sumN (fun t => sg Ab v t * Ab 1 t) (nT Ab) - Ab 17 v := by
  unfold ovF
  rw [sumN_cong (g := fun t => sg Ab v t * Ab 1 t) (fun t _ => by unfold hw; rw [bz]; rfl)]
theorem ov_bd {Ab : Mem} (ho : HallOK Ab) {f : Nat → Int} (hf : ∀ t, t < nT Ab → -99 ≤ f t ∧ f t ≤ 99) : ∀ {n : Nat}, n ≤ nT Ab → -(99 * (n : Int)) ≤ sumN f n ∧ sumN f n ≤ 99 * (n : Int)
  | 0, _ => by simp [sumN]
  | n + 1, h => by
    have ih := ov_bd ho hf (n := n) (by omega)
    have := hf n (by omega)
    rw [sumN]
    omega
theorem sgw {Ab : Mem} (v t : Nat) {x : Int} (h0 : -99 ≤ x) (h1 : x ≤ 99) : -99 ≤ sg Ab v t * x ∧ sg Ab v t * x ≤ 99 := by
  rcases sg_bd Ab v t with e | e | e <;> rw [e] <;> omega
theorem hw_bd {Ab : Mem} (ho : HallOK Ab) (s : Nat) {t : Nat} (ht : t < nT Ab) : 0 ≤ hw Ab s t ∧ hw Ab s t ≤ 99 := by
  have := (ho.2.2.2.2.2.2.1 t ht).2.1
  unfold hw
  split <;> omega
theorem ovF_bd {Ab : Mem} (ho : HallOK Ab) (hv : VoteOK Ab 15 (Ab 10 6)) {v : Nat} (h : v < nV Ab) (s : Nat) : -100000 ≤ ovF Ab v s ∧ ovF Ab v s ≤ 100000 := by
  have := ov_bd ho (f := fun t => sg Ab v t * hw Ab s t) (fun t ht => sgw v t (by have := hw_bd ho s ht; omega) (by have := hw_bd ho s ht; omega)) (Nat.le_refl _)
  have h2 : -9999 ≤ Ab 17 v ∧ Ab 17 v ≤ 9999 := (hv.2 v h).2.2
  have := (nT_le ho).1
  unfold ovF
  omega
theorem ov_step {Ab : Mem} (v : Nat) {s t : Nat} (ht : t < nT Ab) : ovF Ab v (s ^^^ 2 ^ t) = ovF Ab v s + (if (s ^^^ 2 ^ t).testBit t = true then 1 else -1) * (sg Ab v t * (Ab 1 t / 2 - Ab 1 t)) := by
  have e1 : (s ^^^ 2 ^ t).testBit t = !s.testBit t := by rw [Nat.testBit_xor, b2p]; simp
  have e2 : ∀ i, i ≠ t → (s ^^^ 2 ^ t).testBit i = s.testBit i := fun i hi => by rw [Nat.testBit_xor, b2p, decide_eq_false (fun z => hi z.symm)]; simp
  unfold ovF
  rw [sumN_one (f := fun i => sg Ab v i * hw Ab s i) (g := fun i => sg Ab v i * hw Ab (s ^^^ 2 ^ t) i) (j := t) (c := (if (s ^^^ 2 ^ t).testBit t = true then 1 else -1) * (sg Ab v t * (Ab 1 t / 2 - Ab 1 t))) ht ?_ (fun i hi hj => by unfold hw; simp only [e2 i hj])]
  · omega
  · unfold hw
    simp only [e1]
    rcases sg_bd Ab v t with e | e | e <;> rw [e] <;> cases s.testBit t <;> simp <;> omega
theorem pro_lt {Ab : Mem} (ho : HallOK Ab) {x : Int} (h : x < 2 ^ nP Ab) : x < 2147483648 := by
  have h2 := p10 (nP_le ho).1
  have e : ((2 ^ nP Ab : Nat) : Int) = (2 : Int) ^ nP Ab := by simp
  omega
