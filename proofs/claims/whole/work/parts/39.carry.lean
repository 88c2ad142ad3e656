/-! Carrying: who could carry what -/
def sbs (x s : Nat) : Prop := ∀ b, x.testBit b = true → s.testBit b = true
def CanP (w caps : Nat → Int) (n : Nat) : Nat → Nat → Prop
  | 0, s => s = 0
  | j + 1, s => ∃ x, sbs x s ∧ wS w x n ≤ caps j ∧ CanP w caps n j (s ^^^ x)
def rch (w caps : Nat → Int) (n s c : Nat) (L : Int) : Prop := ∃ x, sbs x s ∧ wS w x n = L ∧ L ≤ caps c ∧ CanP w caps n c (s ^^^ x)
theorem xbit (x i b : Nat) : (x ^^^ 2 ^ i).testBit b = (x.testBit b ^^ decide (i = b)) := by rw [Nat.testBit_xor, b2p]
theorem wS_in {w : Nat → Int} {n x i : Nat} (hi : i < n) (h : x.testBit i = false) : wS w (x ^^^ 2 ^ i) n = wS w x n + w i := by
  refine sumN_one (j := i) hi ?_ (fun b hb hbi => ?_)
  · simp only [xbit, h]
    simp
  · simp only [xbit, decide_eq_false (fun z : i = b => hbi z.symm)]
    simp
theorem wS_out {w : Nat → Int} {n x i : Nat} (hi : i < n) (h : x.testBit i = true) : wS w (x ^^^ 2 ^ i) n + w i = wS w x n := by
  have e : (x ^^^ 2 ^ i).testBit i = false := by rw [xbit, h]; simp
  have h2 := wS_in (w := w) hi e
  rw [Nat.xor_assoc, Nat.xor_self, Nat.xor_zero] at h2
  exact h2.symm
theorem Can_up {w caps : Nat → Int} {n : Nat} (hc : ∀ c, 0 ≤ caps c) {s : Nat} : ∀ {d j : Nat}, CanP w caps n j s → CanP w caps n (j + d) s
  | 0, _, h => h
  | d + 1, j, h => ⟨0, fun b hb => by rw [bz] at hb; exact absurd hb (by decide), by rw [wS_0]; exact hc _, by rw [Nat.xor_zero]; exact Can_up (d := d) hc h⟩
theorem Can_rch {w caps : Nat → Int} {n s c : Nat} : CanP w caps n (c + 1) s ↔ ∃ L, rch w caps n s c L :=
  ⟨fun ⟨x, h1, h2, h3⟩ => ⟨_, x, h1, rfl, h2, h3⟩, fun ⟨_, x, h1, h2, h3, h4⟩ => ⟨x, h1, by rw [h2]; exact h3, h4⟩⟩
/-- what a set needs -/
def NdOK (w caps : Nat → Int) (n K s : Nat) (v : Int) : Prop :=
  (v = 1000000 ∧ ∀ c L, c < K → ¬ rch w caps n s c L) ∨ ∃ (c : Nat) (L : Int), c < K ∧ 0 ≤ L ∧ L < 1000 ∧ v = (c : Int) * 4096 + L ∧ rch w caps n s c L ∧ ∀ (c' : Nat) (L' : Int), c' < K → rch w caps n s c' L' → v ≤ (c' : Int) * 4096 + L'
def ldN (c0 : Nat) (L0 : Int) (c : Nat) : Int := if c = c0 then L0 else 0
def NWr (caps : Nat → Int) (K : Nat) (w : Int) (c0 : Nat) (L0 v : Int) : Prop :=
  (v = 1000000 ∧ ∀ c, c0 ≤ c → c < K → ¬ ldN c0 L0 c + w ≤ caps c) ∨ ∃ c : Nat, c0 ≤ c ∧ c < K ∧ ldN c0 L0 c + w ≤ caps c ∧ v = (c : Int) * 4096 + ldN c0 L0 c + w ∧ ∀ c', c0 ≤ c' → c' < c → ¬ ldN c0 L0 c' + w ≤ caps c'
def NW (caps : Nat → Int) (K : Nat) (before w v : Int) : Prop := (before = 1000000 ∧ v = 1000000) ∨ (before ≠ 1000000 ∧ NWr caps K w (before / 4096).toNat (before % 4096) v)
def wOK (w : Nat → Int) (n : Nat) : Prop := n ≤ 10 ∧ ∀ i, i < n → 1 ≤ w i ∧ w i ≤ 99
theorem wS_990 {w : Nat → Int} {n : Nat} (h : wOK w n) (s : Nat) : 0 ≤ wS w s n ∧ wS w s n ≤ 990 := by
  have := wS_bd (c := 99) (by decide) (fun i hi => ⟨by have := h.2 i hi; omega, (h.2 i hi).2⟩) s
  have := h.1
  omega
theorem nd_min {w caps : Nat → Int} {n K s : Nat} (hw : wOK w n) (hK : K ≤ 10) (hs : 0 < s) (hl : s < 2 ^ n) {nd : Nat → Int} {best : Int}
    (hn : ∀ i, s.testBit i = true → NdOK w caps n K (s ^^^ 2 ^ i) (nd i)) (hb : ∀ i, s.testBit i = true → ∃ v, NW caps K (nd i) (w i) v ∧ best ≤ v) :
    ∀ (c : Nat) (L : Int), c < K → rch w caps n s c L → best ≤ (c : Int) * 4096 + L
  | c, L, hc, ⟨x, h1, h2, h3, h4⟩ => by
    have b9 := wS_990 hw x
    by_cases q : x = 0
    · subst q
      rw [wS_0] at h2
      rw [Nat.xor_zero] at h4
      cases c with
      | zero => exact absurd h4 (by show ¬ s = 0; omega)
      | succ d =>
        obtain ⟨L2, h5⟩ := Can_rch.mp h4
        have h6 := nd_min hw hK hs hl hn hb d L2 (by omega) h5
        obtain ⟨x2, -, h7, -⟩ := h5
        have := wS_990 hw x2
        omega
    · obtain ⟨i, hi⟩ := Nat.exists_testBit_of_ne_zero q
      have his := h1 i hi
      have hin := bit_lt hl his
      have wi := hw.2 i hin
      have ho := wS_out (w := w) hin hi
      have b8 := wS_990 hw (x ^^^ 2 ^ i)
      have r : rch w caps n (s ^^^ 2 ^ i) c (L - w i) := by
        refine ⟨x ^^^ 2 ^ i, fun b hb2 => ?_, by omega, by omega, ?_⟩
        · rw [xbit] at hb2 ⊢
          by_cases e : i = b
          · subst e; rw [hi] at hb2; simp at hb2
          · rw [decide_eq_false e, Bool.xor_false] at hb2 ⊢
            exact h1 b hb2
        · have e : s ^^^ 2 ^ i ^^^ (x ^^^ 2 ^ i) = s ^^^ x := by
            rw [Nat.xor_comm x, Nat.xor_assoc, ← Nat.xor_assoc (2 ^ i), Nat.xor_self, Nat.zero_xor]
          rw [e]; exact h4
      obtain ⟨v, hv, hbv⟩ := hb i his
      rcases hn i his with ⟨z1, z2⟩ | ⟨c0, L0, z1, z2, z3, z4, z5, z6⟩
      · exact absurd r (z2 c _ hc)
      · have m := z6 c _ hc r
        rcases hv with ⟨q1, -⟩ | ⟨-, q2⟩
        · omega
        · have d1 : (nd i / 4096).toNat = c0 := by omega
          have d2 : nd i % 4096 = L0 := by omega
          rw [d1, d2] at q2
          have cc : c0 < c ∨ (c0 = c ∧ L0 ≤ L - w i) := by omega
          have fit : ldN c0 L0 c + w i ≤ caps c := by
            unfold ldN
            rcases cc with cc | cc
            · rw [if_neg (by omega)]; omega
            · rw [if_pos cc.1.symm]; omega
          rcases q2 with ⟨-, q3⟩ | ⟨c1, p1, p2, p3, p4, p5⟩
          · exact absurd fit (q3 c (by omega) hc)
          · have c1c : ¬ c < c1 := fun z => p5 c (by omega) z fit
            have ld1 : ldN c0 L0 c1 ≤ 999 := by unfold ldN; split <;> omega
            by_cases e : c1 = c
            · subst e
              have : ldN c0 L0 c1 + w i ≤ L := by
                unfold ldN
                rcases cc with cc | cc
                · rw [if_neg (by omega)]; omega
                · rw [if_pos cc.1.symm]; omega
              omega
            · omega
theorem nd_step {w caps : Nat → Int} {n K s : Nat} (hw : wOK w n) (hcp : ∀ c, 0 ≤ caps c) (hK : K ≤ 10) (hs : 0 < s) (hl : s < 2 ^ n) {nd : Nat → Int} {best : Int}
    (hn : ∀ i, s.testBit i = true → NdOK w caps n K (s ^^^ 2 ^ i) (nd i)) (hb : ∀ i, s.testBit i = true → ∃ v, NW caps K (nd i) (w i) v ∧ best ≤ v)
    (hf : best = 1000000 ∨ ∃ i, s.testBit i = true ∧ NW caps K (nd i) (w i) best) : NdOK w caps n K s best := by
  have mn := nd_min hw hK hs hl hn hb
  by_cases q : best = 1000000
  · refine Or.inl ⟨q, fun c L hc hr => ?_⟩
    have := mn c L hc hr
    obtain ⟨x, -, h7, -⟩ := hr
    have := wS_990 hw x
    omega
  · rcases hf with hf | ⟨i, his, hf⟩
    · exact absurd hf q
    · have hin := bit_lt hl his
      have wi := hw.2 i hin
      rcases hf with ⟨-, z⟩ | ⟨q0, hf⟩
      · exact absurd z q
      · rcases hn i his with ⟨z1, -⟩ | ⟨c0, L0, z1, z2, z3, z4, ⟨x0, y1, y2, y3, y4⟩, z6⟩
        · exact absurd z1 q0
        · have d1 : (nd i / 4096).toNat = c0 := by omega
          have d2 : nd i % 4096 = L0 := by omega
          rw [d1, d2] at hf
          have ni : x0.testBit i = false := by
            cases e : x0.testBit i with
            | false => rfl
            | true =>
              have := y1 i e
              rw [xbit, his] at this
              simp at this
          have si : ∀ b, (s ^^^ 2 ^ i).testBit b = true → s.testBit b = true := by
            intro b hb2
            rw [xbit] at hb2
            by_cases e : i = b
            · subst e; exact his
            · rw [decide_eq_false e, Bool.xor_false] at hb2
              exact hb2
          rcases hf with ⟨z, -⟩ | ⟨c, p1, p2, p3, p4, -⟩
          · exact absurd z q
          · refine Or.inr ⟨c, ldN c0 L0 c + w i, p2, ?_, ?_, by omega, ?_, mn⟩
            · unfold ldN; split <;> omega
            · unfold ldN
              split
              · have := wS_in (w := w) hin ni
                have := wS_990 hw (x0 ^^^ 2 ^ i)
                omega
              · omega
            · by_cases e : c = c0
              · subst e
                refine ⟨x0 ^^^ 2 ^ i, fun b hb2 => ?_, ?_, p3, ?_⟩
                · rw [xbit] at hb2
                  by_cases e : i = b
                  · subst e; exact his
                  · rw [decide_eq_false e, Bool.xor_false] at hb2
                    exact si b (y1 b hb2)
                · rw [wS_in hin ni, y2]; unfold ldN; rw [if_pos rfl]
                · have e : s ^^^ (x0 ^^^ 2 ^ i) = s ^^^ 2 ^ i ^^^ x0 := by rw [Nat.xor_comm x0, Nat.xor_assoc]
                  rw [e]; exact y4
              · have l0 : ldN c0 L0 c = 0 := by unfold ldN; rw [if_neg e]
                rw [l0] at p3 ⊢
                refine ⟨2 ^ i, fun b hb2 => ?_, ?_, p3, ?_⟩
                · rw [b2p] at hb2
                  have := of_decide_eq_true hb2
                  subst this; exact his
                · have := wS_in (w := w) (n := n) hin (bz i)
                  rw [Nat.zero_xor, wS_0] at this
                  exact this
                · have h5 : CanP w caps n (c0 + 1) (s ^^^ 2 ^ i) := Can_rch.mpr ⟨L0, x0, y1, y2, y3, y4⟩
                  have h6 := Can_up (d := c - (c0 + 1)) hcp h5
                  rw [show c0 + 1 + (c - (c0 + 1)) = c by omega] at h6
                  exact h6
theorem nd_0 {w caps : Nat → Int} {n K : Nat} (hcp : ∀ c, 0 ≤ caps c) : NdOK w caps n K 0 (if 0 < K then 0 else 1000000) := by
  by_cases q : 0 < K
  · rw [if_pos q]
    refine Or.inr ⟨0, 0, q, by decide, by decide, rfl, ⟨0, fun b hb => hb, wS_0 _ _, hcp 0, rfl⟩, fun c L hc ⟨x, h1, h2, h3, h4⟩ => ?_⟩
    have e : x = 0 := by
      refine Nat.eq_of_testBit_eq (fun b => ?_)
      rw [bz]
      cases e : x.testBit b with
      | false => rfl
      | true => have := h1 b e; rw [bz] at this; exact absurd this (by decide)
    subst e
    rw [wS_0] at h2
    omega
  · rw [if_neg q]
    exact Or.inl ⟨rfl, fun c L hc => by omega⟩
/-- a set needs something iff it can be carried -/
theorem nd_can {w caps : Nat → Int} {n K s : Nat} {v : Int} (hcp : ∀ c, 0 ≤ caps c) (hK : K ≤ 10) (hs : 0 < s) (h : NdOK w caps n K s v) : v ≠ 1000000 ↔ CanP w caps n K s := by
  constructor
  · intro q
    rcases h with ⟨z, -⟩ | ⟨c, L, h1, -, -, -, h5, -⟩
    · exact absurd z q
    · have h6 := Can_up (d := K - (c + 1)) hcp (Can_rch.mpr ⟨L, h5⟩)
      rw [show c + 1 + (K - (c + 1)) = K by omega] at h6
      exact h6
  · intro q
    rcases h with ⟨-, z⟩ | ⟨c, L, h1, h2, h3, h4, -⟩
    · cases K with
      | zero => exact absurd q (by show ¬ s = 0; omega)
      | succ k =>
        obtain ⟨L, h5⟩ := Can_rch.mp q
        exact absurd h5 (z k L (by omega))
    · omega
