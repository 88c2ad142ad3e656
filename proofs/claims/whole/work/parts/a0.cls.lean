/-! the class's face: what keeps its cells -/
def F_X10_needElement : FT := fun as M Q => match as with
  | [.inr (.inl k), .inl b] => k = 0 ∧ (¬ b = 0 → Q (.inl none) M) ∧ (b = 0 → Q (.inr 1) (up M 0 16 (f_add (M 0 16) 1)))
  | _ => False
def F_X10_needArgument : FT := fun as M Q => match as with
  | [.inr (.inl k), .inl b] => k = 0 ∧ (¬ b = 0 → Q (.inl none) M) ∧ (b = 0 → Q (.inr 2) (up M 0 17 (f_add (M 0 17) 1)))
  | _ => False
def cN (ans : AS → An) (M : Mem) (Q : Option Vl → Mem → Prop) : Prop := ∃ s, Cls M s ∧ ∀ M', CF M M' → Cls M' (ans s).2.2 → Q (some (vI (ans s).2.1)) M'
theorem ChrRel.kept {M M' Ab : Mem} (h : ChrRel M Ab) (e : ∀ u v, u < 69 → ¬ (u = 0 ∧ (v = 16 ∨ v = 17)) → M' u v = M u v) : ChrRel M' Ab := by
  obtain ⟨h0, h1, h2, h3, h4, h5⟩ := h
  have q0 := h0.2.1
  have q1 := h0.2.2.1
  refine ⟨?_, fun m t a b => by rw [e _ _ (by omega) (by omega)]; exact h1 m t a b, fun m t a b => by rw [e _ _ (by omega) (by omega)]; exact h2 m t a b, fun k l s a b c => by rw [e _ _ (by omega) (by omega)]; exact h3 k l s a b c, fun t a => by rw [e _ _ (by omega) (by omega)]; exact h4 t a, fun t a => by rw [e _ _ (by omega) (by omega)]; exact h5 t a⟩
  obtain ⟨s1, s2, s3, s4, s5, s6, s7⟩ := h0
  have e0 := e 42 0 (by omega) (by omega)
  have e1 := e 42 1 (by omega) (by omega)
  exact ⟨s1, by rw [e0]; exact s2, by rw [e1]; exact s3, by rw [e0]; exact s4.kept (fun u v a b => e u v (by omega) (by omega)), by rw [e1]; exact s5.kept (fun u v a b => e u v (by omega) (by omega)), s6, s7⟩
theorem CuR.kept {M M' Ab : Mem} (h : CuR M Ab) (e : ∀ u v, u < 35 → ¬ (u = 0 ∧ (v = 8 ∨ v = 16 ∨ v = 17)) → ¬ (1 ≤ u ∧ u ≤ 2) → M' u v = M u v) : CuR M' Ab := by
  obtain ⟨h1, h2, h3, h4, h5, h6⟩ := h
  have e1 := e 0 1 (by omega) (by omega) (by omega)
  have e3 := e 0 3 (by omega) (by omega) (by omega)
  exact ⟨by rw [e1]; exact h1, by rw [e3]; exact h2, by rw [e1]; exact h3.kept (fun u v a b => e u v (by omega) (by omega) (by omega)), by rw [e3]; exact h4.kept (fun u v a b => e u v (by omega) (by omega) (by omega)), h5, h6⟩
theorem Cls.kept {M M' : Mem} {s : AS} (h : Cls M s) (e : ∀ u v, (u < 69 ∨ 129 ≤ u) → M' u v = M u v) : Cls M' s := by
  obtain ⟨c1, c2, c3, ⟨b1, b2⟩, ⟨i1, i2, i3⟩, ⟨t1, t2, t3, t4⟩, ⟨r1, r2⟩, k1, k2⟩ := h
  have n3 : nI3 s ≤ 3 := by have := i1.1; unfold nI3; omega
  refine ⟨c1.kept (fun u v a _ _ => e u v (by omega)), by rw [e _ _ (by omega), e _ _ (by omega)]; exact c2, by rw [e _ _ (by omega), e _ _ (by omega)]; exact c3, ⟨b1.kept (fun u v a b => e u v (by omega)), b2⟩, ⟨i1, by rw [e _ _ (by omega)]; exact i2, fun i hi => ⟨(i3 i hi).1.kept (fun u v a b => e u v (by omega)), (i3 i hi).2.kept (fun u v a b => e u v (by omega))⟩⟩, ⟨t1, by rw [e _ _ (by omega)]; exact t2, by rw [e _ _ (by omega)]; exact t3, fun i hi => by rw [e _ _ (by omega)]; exact t4 i hi⟩, ⟨by rw [e _ _ (by omega)]; exact r1, by rw [e _ _ (by omega)]; exact r2⟩, fun z => ?_, fun z => ?_⟩
  · rw [e _ _ (by omega)] at z
    obtain ⟨q1, q2, q3⟩ := k1 z
    exact ⟨q1.kept (fun u v a _ => e u v (by omega)), by rw [e _ _ (by omega), e _ _ (by omega)]; exact q2, by rw [e _ _ (by omega), e _ _ (by omega)]; exact q3⟩
  · rw [e _ _ (by omega)] at z
    have q := k2 z
    unfold HolRel at q ⊢
    rw [e _ _ (by omega), e _ _ (by omega), e _ _ (by omega), e _ _ (by omega)]
    exact q
theorem Cls.chr {M M' : Mem} {s : AS} (h : Cls M s) (e : ∀ u v, (u < 41 ∨ (42 < u ∧ u < 59) ∨ 68 < u) → M' u v = M u v) (hc : ¬ M' 41 4 = 0) (hk : CuK M' s.1) : Cls M' s := by
  obtain ⟨c1, c2, c3, ⟨b1, b2⟩, ⟨i1, i2, i3⟩, ⟨t1, t2, t3, t4⟩, ⟨r1, r2⟩, k1, k2⟩ := h
  refine ⟨c1.kept (fun u v a _ _ => e u v (by omega)), by rw [e _ _ (by omega), e _ _ (by omega)]; exact c2, by rw [e _ _ (by omega), e _ _ (by omega)]; exact c3, ⟨b1.kept (fun u v a b => e u v (by omega)), b2⟩, ⟨i1, by rw [e _ _ (by omega)]; exact i2, fun i hi => ⟨(i3 i hi).1.kept (fun u v a b => e u v (by omega)), (i3 i hi).2.kept (fun u v a b => e u v (by omega))⟩⟩, ⟨t1, by rw [e _ _ (by omega)]; exact t2, by rw [e _ _ (by omega)]; exact t3, fun i hi => by rw [e _ _ (by omega)]; exact t4 i hi⟩, ⟨by rw [e _ _ (by omega)]; exact r1, by rw [e _ _ (by omega)]; exact r2⟩, fun _ => hk, fun z => ?_⟩
  rw [e _ _ (by omega)] at z
  have q := k2 z
  unfold HolRel at q ⊢
  rw [e _ _ (by omega), e _ _ (by omega), e _ _ (by omega), e _ _ (by omega)]
  exact q
theorem Cls.rf {M : Mem} {s : AS} (h : Cls M s) {e : Nat} (he : e = 1 ∨ e = 2) : Cls (up M 0 (15 + e) (f_add (M 0 (15 + e)) 1)) (rfA s e) := by
  have ee : ∀ u v, ¬ (u = 10 ∧ (v = 10 ∨ v = 11)) → (rfA s e).2.1 u v = s.2.1 u v := rfA_im he
  have k : ∀ u v, ¬ (u = 0 ∧ (v = 16 ∨ v = 17)) → up M 0 (15 + e) (f_add (M 0 (15 + e)) 1) u v = M u v := fun u v hu => up_ne (by omega)
  obtain ⟨c1, c2, c3, ⟨b1, b2⟩, ⟨⟨i1, i1'⟩, i2, i3⟩, ⟨⟨t1, t1'⟩, t2, t3, t4⟩, ⟨r1, r2⟩, k1, k2⟩ := h
  have ei : nI3 (rfA s e) = nI3 s := by unfold nI3; rw [ee _ _ (by omega)]
  refine ⟨c1.kept (fun u v a b _ => k u v (by omega)), by rw [k _ _ (by omega), k _ _ (by omega)]; exact c2, by rw [k _ _ (by omega), k _ _ (by omega)]; exact c3, ⟨b1.kept (fun u v a b => k u v (by omega)), b2⟩, ⟨⟨by rw [ee _ _ (by omega)]; exact i1, by rw [ei]; exact i1'⟩, by rw [ee _ _ (by omega), k _ _ (by omega)]; exact i2, ?_⟩, ⟨⟨by rw [ee _ _ (by omega)]; exact t1, fun i hi => by rw [ee _ _ (by omega)]; exact t1' i hi⟩, by rw [ee _ _ (by omega), k _ _ (by omega)]; exact t2, by rw [ee _ _ (by omega), k _ _ (by omega)]; exact t3, fun i hi => by rw [ee _ _ (by omega), k _ _ (by omega)]; exact t4 i hi⟩, ?_, fun z => ?_, fun z => ?_⟩
  · intro i hi
    rw [ei] at hi
    exact ⟨(i3 i hi).1.kept (fun u v a b => k u v (by omega)), (i3 i hi).2.kept (fun u v a b => k u v (by omega))⟩
  · rcases he with rfl | rfl
    · refine ⟨?_, ?_⟩
      · show up M 0 16 (f_add (M 0 16) 1) 0 16 = up s.2.1 10 10 (f_add (s.2.1 10 10) 1) 10 10
        rw [up_eq, up_eq, r1]
      · show up M 0 16 (f_add (M 0 16) 1) 0 17 = up s.2.1 10 10 (f_add (s.2.1 10 10) 1) 10 11
        rw [up_ne (by omega), up_ne (by omega), r2]
    · refine ⟨?_, ?_⟩
      · show up M 0 17 (f_add (M 0 17) 1) 0 16 = up s.2.1 10 11 (f_add (s.2.1 10 11) 1) 10 10
        rw [up_ne (by omega), up_ne (by omega), r1]
      · show up M 0 17 (f_add (M 0 17) 1) 0 17 = up s.2.1 10 11 (f_add (s.2.1 10 11) 1) 10 11
        rw [up_eq, up_eq, r2]
  · rw [k _ _ (by omega)] at z
    obtain ⟨q1, q2, q3⟩ := k1 z
    exact ⟨q1.kept (fun u v a b => k u v b), by rw [k _ _ (by omega), k _ _ (by omega)]; exact q2, by rw [k _ _ (by omega), k _ _ (by omega)]; exact q3⟩
  · rw [k _ _ (by omega)] at z
    have q := k2 z
    unfold HolRel at q ⊢
    rw [k _ _ (by omega), k _ _ (by omega), k _ _ (by omega), k _ _ (by omega)]
    exact q
theorem c_no {M : Mem} {s : AS} {Q : QT} {a : An} (hM : Cls M s) (e : Nat) (he : e = 1 ∨ e = 2) (ha : a = nay s e) {M0 : Mem} (cf : CF M0 M) (hQ : ∀ M', CF M0 M' → Cls M' a.2.2 → cQ a Q M') : Q (.inr e) (up M 0 (15 + e) (f_add (M 0 (15 + e)) 1)) := by
  subst ha
  have := hQ _ (fun u v hu => (up_ne (by omega)).trans (cf u v hu)) (hM.rf he)
  unfold cQ at this
  rw [if_neg (show ¬ (nay s e).1 = 0 by show ¬ e = 0; omega)] at this
  exact this
theorem c_yes {M' : Mem} {s : AS} {Q : QT} {a : An} {v : Int} (ha : a = yea s v) {M0 : Mem} (hM : Cls M' s) (cf : CF M0 M') {r : Int} (hr : r = v) (hQ : ∀ M', CF M0 M' → Cls M' a.2.2 → cQ a Q M') : Q (.inl (some (vI r))) M' := by
  subst ha
  subst hr
  exact hQ M' cf hM
theorem CF.rf (M : Mem) : CF M M := fun _ _ _ => rfl
theorem Cls.pl {M : Mem} {s : AS} (h : Cls M s) : PL M (M 0 1).toNat s.1 := ⟨by rcases h.1.1 with q | q <;> rw [q] <;> simp [PlanAt], h.1.2.2.1, h.1.2.2.2.2.1⟩
theorem Cls.lo {M : Mem} {s : AS} (h : Cls M s) : LoanAt (M 0 3).toNat := by rcases h.1.2.1 with q | q <;> rw [q] <;> simp [LoanAt]
/-- the chronicle, for the class's own methods -/
theorem use_chr {M : Mem} {s : AS} {Q : QT} (h : Cls M s) (hQ : ∀ M' : Mem, Cls M' s → CF M M' → ChrRel M' s.1 → (∀ u v, (u < 41 ∨ (42 < u ∧ u < 59) ∨ 68 < u) → M' u v = M u v) → Q (.inl (some (vR 41))) M') : nf G_X10_chronicled [.inr (.inl 0)] M Q := ⟨s.1, rfl, h.1, h.2.2.2.2.2.2.2.1, fun M' e hc hk => hQ M' (h.chr e hc hk) (fun u v hu => e u v (by omega)) hk.1 e⟩
