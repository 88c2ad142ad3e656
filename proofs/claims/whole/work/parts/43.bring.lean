/-! Bringing: the line at a door -/
def keyT (Ab : Mem) (t : Nat) : Int := Ab 3 t * 100 + (t : Int)
def LineOK (Ab : Mem) (d : Int) (B : Nat) (L : Nat → Nat) (n : Nat) : Prop := (∀ i, i < n → L i < B ∧ Ab 2 (L i) = d) ∧ (∀ a b, a < b → b < n → keyT Ab (L a) < keyT Ab (L b)) ∧ ∀ t, t < B → Ab 2 t = d → ∃ i, i < n ∧ L i = t
theorem key_inj {Ab : Mem} (ho : HallOK Ab) {t u : Nat} (ht : t < nT Ab) (hu : u < nT Ab) (h : keyT Ab t = keyT Ab u) : t = u := by
  have := (nT_le ho).1
  unfold keyT at h
  omega
theorem line_step {Ab : Mem} {d : Int} {L L2 : Nat → Nat} {n n2 : Nat} (ho : HallOK Ab) (h : LineOK Ab d (nT Ab) L n) (h2 : LineOK Ab d (nT Ab) L2 n2) {i : Nat} (hi : i < n) (hp : ∀ j, j < i → j < n2 ∧ L j = L2 j) : i < n2 ∧ keyT Ab (L2 i) ≤ keyT Ab (L i) := by
  obtain ⟨k, k1, k2⟩ := h2.2.2 (L i) (h.1 i hi).1 (h.1 i hi).2
  have ki : i ≤ k := by
    refine Nat.le_of_not_lt (fun q => ?_)
    have e := (hp k q).2
    have := h.2.1 k i q hi
    rw [e, k2] at this
    omega
  refine ⟨by omega, ?_⟩
  by_cases e : i = k
  · subst e; rw [k2]; exact Int.le_refl _
  · have := h2.2.1 i k (by omega) k1
    rw [k2] at this
    omega
theorem line_uni {Ab : Mem} {d : Int} {L L2 : Nat → Nat} {n n2 : Nat} (ho : HallOK Ab) (h : LineOK Ab d (nT Ab) L n) (h2 : LineOK Ab d (nT Ab) L2 n2) : ∀ i, (∀ j, j < i → j < n → j < n2 ∧ L j = L2 j) ∧ (∀ j, j < i → j < n2 → j < n ∧ L2 j = L j)
  | 0 => ⟨fun j hj => by omega, fun j hj => by omega⟩
  | i + 1 => by
    obtain ⟨a1, a2⟩ := line_uni ho h h2 i
    have one : i < n → i < n2 ∧ L i = L2 i := by
      intro hi
      obtain ⟨s1, s2⟩ := line_step ho h h2 hi (fun j hj => a1 j hj (by omega))
      obtain ⟨s3, s4⟩ := line_step ho h2 h s1 (fun j hj => a2 j hj (by omega))
      exact ⟨s1, key_inj ho (h.1 i hi).1 (h2.1 i s1).1 (by omega)⟩
    have two : i < n2 → i < n ∧ L2 i = L i := by
      intro hi
      obtain ⟨s1, s2⟩ := line_step ho h2 h hi (fun j hj => a2 j hj (by omega))
      obtain ⟨s3, s4⟩ := line_step ho h h2 s1 (fun j hj => a1 j hj (by omega))
      exact ⟨s1, key_inj ho (h2.1 i hi).1 (h.1 i s1).1 (by omega)⟩
    constructor
    · intro j hj hn
      by_cases e : j = i
      · subst e; exact one hn
      · exact a1 j (by omega) hn
    · intro j hj hn
      by_cases e : j = i
      · subst e; exact two hn
      · exact a2 j (by omega) hn
theorem line_n {Ab : Mem} {d : Int} {L L2 : Nat → Nat} {n n2 : Nat} (ho : HallOK Ab) (h : LineOK Ab d (nT Ab) L n) (h2 : LineOK Ab d (nT Ab) L2 n2) : n = n2 := by
  obtain ⟨a1, a2⟩ := line_uni ho h h2 (n + n2)
  rcases Nat.lt_trichotomy n n2 with q | q | q
  · have := a2 n (by omega) q; omega
  · exact q
  · have := a1 n2 (by omega) q; omega
def tnF (Ab : Mem) (L : Nat → Nat) (s : Nat) : Nat → Int
  | 0 => 0
  | i + 1 => if s.testBit i = true then max (tnF Ab L s i) (Ab 3 (L i)) + passF Ab (L i) else tnF Ab L s i
theorem tnF_cong {Ab : Mem} {L L2 : Nat → Nat} {s s2 : Nat} : ∀ {n : Nat}, (∀ i, i < n → L i = L2 i ∧ s.testBit i = s2.testBit i) → tnF Ab L s n = tnF Ab L2 s2 n
  | 0, _ => rfl
  | n + 1, h => by rw [tnF, tnF, tnF_cong (fun i hi => h i (by omega)), (h n (by omega)).1, (h n (by omega)).2]
theorem wS_cong {w w2 : Nat → Int} {s s2 n : Nat} (h : ∀ i, i < n → w i = w2 i ∧ s.testBit i = s2.testBit i) : wS w s n = wS w2 s2 n := sumN_cong (fun i hi => by rw [(h i hi).1, (h i hi).2])
def BrP (Ab : Mem) (L : Nat → Nat) (n : Nat) (mi v : Int) : Prop := (∃ s, s < 2 ^ n ∧ tnF Ab L s n ≤ mi ∧ wS (fun i => Ab 1 (L i)) s n = v) ∧ ∀ s, s < 2 ^ n → tnF Ab L s n ≤ mi → wS (fun i => Ab 1 (L i)) s n ≤ v
def BrV (Ab : Mem) (d mi v : Int) : Prop := ∃ L n, LineOK Ab d (nT Ab) L n ∧ BrP Ab L n mi v
theorem BrV_uni {Ab : Mem} {d mi v v2 : Int} (ho : HallOK Ab) (h : BrV Ab d mi v) (h2 : BrV Ab d mi v2) : v = v2 := by
  obtain ⟨L, n, l1, ⟨s, s1, s2, s3⟩, s4⟩ := h
  obtain ⟨L2, n2, l2, ⟨r, r1, r2, r3⟩, r4⟩ := h2
  obtain rfl := line_n ho l1 l2
  obtain ⟨a1, -⟩ := line_uni ho l1 l2 n
  have e : ∀ x, tnF Ab L x n = tnF Ab L2 x n := fun x => tnF_cong (fun i hi => ⟨(a1 i hi hi).2, rfl⟩)
  have f : ∀ x, wS (fun i => Ab 1 (L i)) x n = wS (fun i => Ab 1 (L2 i)) x n := fun x => wS_cong (fun i hi => ⟨by rw [(a1 i hi hi).2], rfl⟩)
  have g1 := s4 r r1 (by rw [e]; exact r2)
  have g2 := r4 s s1 (by rw [← e]; exact s2)
  rw [f] at g1
  rw [← f] at g2
  omega
/-- the soonest minute by which things of a sum are through -/
def SoP (Ab : Mem) (L : Nat → Nat) (i : Nat) (x v : Int) : Prop :=
  (v = 1000000 ∧ ∀ s, s < 2 ^ i → wS (fun i => Ab 1 (L i)) s i ≠ x) ∨ ((∃ s, s < 2 ^ i ∧ wS (fun i => Ab 1 (L i)) s i = x ∧ tnF Ab L s i = v) ∧ ∀ s, s < 2 ^ i → wS (fun i => Ab 1 (L i)) s i = x → v ≤ tnF Ab L s i)
theorem hi_bits {i s : Nat} (h : s < 2 ^ i) : (2 ^ i + s).testBit i = true ∧ ∀ j, j < i → (2 ^ i + s).testBit j = s.testBit j := by
  refine ⟨?_, fun j hj => Nat.testBit_two_pow_add_gt hj s⟩
  rw [Nat.testBit_two_pow_add_eq, Nat.testBit_lt_two_pow h]
  rfl
theorem sp_hi {Ab : Mem} {L : Nat → Nat} {i s : Nat} (h : s < 2 ^ i) : wS (fun i => Ab 1 (L i)) (2 ^ i + s) (i + 1) = wS (fun i => Ab 1 (L i)) s i + Ab 1 (L i) ∧ tnF Ab L (2 ^ i + s) (i + 1) = max (tnF Ab L s i) (Ab 3 (L i)) + passF Ab (L i) := by
  obtain ⟨b1, b2⟩ := hi_bits h
  constructor
  · unfold wS
    rw [sumN, if_pos b1]
    congr 1
    exact sumN_cong (fun j hj => by rw [b2 j hj])
  · rw [tnF, if_pos b1, tnF_cong (L2 := L) (s2 := s) (fun j hj => ⟨rfl, b2 j hj⟩)]
theorem sp_lo {Ab : Mem} {L : Nat → Nat} {i s : Nat} (h : s < 2 ^ i) : wS (fun i => Ab 1 (L i)) s (i + 1) = wS (fun i => Ab 1 (L i)) s i ∧ tnF Ab L s (i + 1) = tnF Ab L s i := by
  have b : s.testBit i = false := Nat.testBit_lt_two_pow h
  constructor
  · unfold wS
    rw [sumN, b]
    simp
  · rw [tnF, b]
    simp
theorem tn_bd {Ab : Mem} (ho : HallOK Ab) {L : Nat → Nat} {n : Nat} (hL : ∀ i, i < n → L i < nT Ab) (hp : ∀ i, i < n → 0 ≤ passF Ab (L i) ∧ passF Ab (L i) ≤ 99) (s : Nat) : ∀ {i : Nat}, i ≤ n → 0 ≤ tnF Ab L s i ∧ tnF Ab L s i ≤ 99 + 99 * (i : Int)
  | 0, _ => by simp [tnF]
  | i + 1, h => by
    have ih := tn_bd ho hL hp s (i := i) (by omega)
    have := hp i (by omega)
    have := (ho.2.2.2.2.2.2.1 _ (hL i (by omega))).2.2.2
    rw [tnF]
    split <;> omega
theorem so_step {Ab : Mem} {L : Nat → Nat} {i : Nat} {x o o2 v : Int} (ht : ∀ s, s < 2 ^ i → tnF Ab L s i < 500000) (hst : Ab 3 (L i) < 500000) (hps : passF Ab (L i) ≤ 99) (h : SoP Ab L i x o) (h2 : SoP Ab L i (x - Ab 1 (L i)) o2)
    (hv : v = if o2 = 1000000 then o else min o (max o2 (Ab 3 (L i)) + passF Ab (L i))) : SoP Ab L (i + 1) x v := by
  have e2 : 2 ^ (i + 1) = 2 ^ i + 2 ^ i := by rw [Nat.pow_succ]; omega
  have case : ∀ s, s < 2 ^ (i + 1) → s < 2 ^ i ∨ ∃ r, r < 2 ^ i ∧ s = 2 ^ i + r := fun s hs => by
    by_cases q : s < 2 ^ i
    · exact Or.inl q
    · exact Or.inr ⟨s - 2 ^ i, by omega, by omega⟩
  rcases h2 with ⟨n1, n2⟩ | ⟨⟨r, r1, r2, r3⟩, r4⟩
  · rw [if_pos n1] at hv
    subst hv
    rcases h with ⟨m1, m2⟩ | ⟨⟨s, s1, s2, s3⟩, s4⟩
    · refine Or.inl ⟨m1, fun s hs => ?_⟩
      rcases case s hs with q | ⟨r, q1, rfl⟩
      · rw [(sp_lo q).1]; exact m2 s q
      · rw [(sp_hi q1).1]
        have := n2 r q1
        omega
    · refine Or.inr ⟨⟨s, by omega, by rw [(sp_lo s1).1]; exact s2, by rw [(sp_lo s1).2]; exact s3⟩, fun y hy he => ?_⟩
      rcases case y hy with q | ⟨r, q1, rfl⟩
      · rw [(sp_lo q).1] at he; rw [(sp_lo q).2]; exact s4 y q he
      · rw [(sp_hi q1).1] at he
        exact absurd (show wS (fun i => Ab 1 (L i)) r i = x - Ab 1 (L i) by omega) (n2 r q1)
  · have ob := ht r r1
    rw [if_neg (by omega)] at hv
    have hiR : ∀ y, y < 2 ^ i → wS (fun i => Ab 1 (L i)) y i = x - Ab 1 (L i) → max o2 (Ab 3 (L i)) + passF Ab (L i) ≤ tnF Ab L (2 ^ i + y) (i + 1) := by
      intro y hy he
      rw [(sp_hi hy).2]
      have := r4 y hy he
      omega
    have lowb : ∀ y, y < 2 ^ (i + 1) → wS (fun i => Ab 1 (L i)) y (i + 1) = x → v ≤ tnF Ab L y (i + 1) := by
      intro y hy he
      rcases case y hy with q | ⟨z, q1, rfl⟩
      · rw [(sp_lo q).1] at he
        rw [(sp_lo q).2]
        rcases h with ⟨m1, m2⟩ | ⟨-, s4⟩
        · exact absurd he (m2 y q)
        · have := s4 y q he
          omega
      · rw [(sp_hi q1).1] at he
        have := hiR z q1 (by omega)
        omega
    refine Or.inr ⟨?_, lowb⟩
    by_cases c : o ≤ max o2 (Ab 3 (L i)) + passF Ab (L i)
    · rcases h with ⟨m1, -⟩ | ⟨⟨s, s1, s2, s3⟩, s4⟩
      · omega
      · exact ⟨s, by omega, by rw [(sp_lo s1).1]; exact s2, by rw [(sp_lo s1).2]; omega⟩
    · refine ⟨2 ^ i + r, by omega, by rw [(sp_hi r1).1]; omega, ?_⟩
      rw [(sp_hi r1).2, r3]
      omega
