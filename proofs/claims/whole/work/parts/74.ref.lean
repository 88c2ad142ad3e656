/-! the reference's cells that count, and what keeps them -/
def RC (u v : Nat) : Prop := (u = 159 ∧ (v = 1 ∨ v = 3 ∨ v = 22 ∨ v = 23 ∨ v = 24 ∨ v = 35)) ∨ u = 160 ∨ u = 161 ∨ u = 163 ∨ (176 ≤ u ∧ u ≤ 185) ∨ (202 ≤ u ∧ u ≤ 215) ∨ (226 ≤ u ∧ u ≤ 233) ∨ (256 ≤ u ∧ u ≤ 275) ∨ u = 277 ∨ (279 ≤ u ∧ u ≤ 291)
theorem Mdl.kept {M M' : Mem} {s : AS} (h : Mdl M s) (e : ∀ u v, RC u v → M' u v = M u v) (b : 0 ≤ M' 159 37 ∧ M' 159 37 ≤ 1000) : Mdl M' s := by
  obtain ⟨⟨ho, ⟨a0, a1, a2, a3, a4⟩, h1, h2, h3, h4⟩, ⟨l1, l2, l3⟩, ⟨v1, v2, v3⟩, ⟨i1, i2, i3⟩, ⟨t1, t2, t3, t4⟩, ⟨r1, r2⟩, w1', w2⟩ := h
  have p1 := (nP_le ho).1
  have t9 := (nT_le ho).1
  have m1 := (nM_le ho).1
  have d1 := (nD_le ho).1
  have L1 := (nL_le l1).1
  have v9 : nV s.1 ≤ 9 := by have := v1.1; unfold nV; omega
  have i9 : nI3 s ≤ 3 := by have := i1.1; unfold nI3; omega
  have e3 : ∀ v, M' 163 v = M 163 v := fun v => e _ _ (by unfold RC; omega)
  have e9 : ∀ v, (v = 1 ∨ v = 3 ∨ v = 22 ∨ v = 23 ∨ v = 24 ∨ v = 35) → M' 159 v = M 159 v := fun v hv => e _ _ (by unfold RC; omega)
  refine ⟨⟨ho, ⟨by rw [e3]; exact a0, by rw [e3]; exact a1, by rw [e3]; exact a2, by rw [e3]; exact a3, by rw [e3]; exact a4⟩, fun p hp => ?_, fun p hp => ?_, fun p hp => ?_, fun p hp => ?_⟩, ⟨l1, by rw [e9 _ (by omega)]; exact l2, fun i hi => ?_⟩, ⟨v1, by rw [e9 _ (by omega)]; exact v2, fun i hi => ?_⟩, ⟨i1, by rw [e9 _ (by omega)]; exact i2, fun i hi => ?_⟩, ⟨t1, by rw [e9 _ (by omega)]; exact t2, by rw [e9 _ (by omega)]; exact t3, fun i hi => ?_⟩, ⟨by rw [e _ _ (by unfold RC; omega)]; exact r1, by rw [e _ _ (by unfold RC; omega)]; exact r2⟩, by rw [e9 _ (by omega)]; exact w1', b⟩
  · rw [e _ _ (by unfold RC; omega), e _ _ (by unfold RC; omega)]; exact h1 p hp
  · rw [e _ _ (by unfold RC; omega), e _ _ (by unfold RC; omega), e _ _ (by unfold RC; omega), e _ _ (by unfold RC; omega)]; exact h2 p hp
  · rw [e _ _ (by unfold RC; omega)]; exact h3 p hp
  · rw [e _ _ (by unfold RC; omega), e _ _ (by unfold RC; omega), e _ _ (by unfold RC; omega)]; exact h4 p hp
  · rw [e _ _ (by unfold RC; omega), e _ _ (by unfold RC; omega), e _ _ (by unfold RC; omega), e _ _ (by unfold RC; omega)]; exact l3 i hi
  · rw [e _ _ (by unfold RC; omega), e _ _ (by unfold RC; omega), e _ _ (by unfold RC; omega)]; exact v3 i hi
  · obtain ⟨k1, k2, k3, k4⟩ := i3 i hi
    refine ⟨by rw [e _ _ (by unfold RC; omega)]; exact k1, by rw [e _ _ (by unfold RC; omega)]; exact k2, fun j c hj hc => ?_, fun j c hj hc => ?_⟩
    · rw [e _ _ (by unfold RC; omega)]; exact k3 j c hj hc
    · rw [e _ _ (by unfold RC; omega)]; exact k4 j c hj hc
  · rw [e _ _ (by unfold RC; omega)]; exact t4 i hi
theorem Mdl.t0 {M : Mem} {s : AS} (h : Mdl M s) (x : Int) : Mdl (up M 159 0 x) s := h.kept (fun u v hu => up_ne (by unfold RC at hu; omega)) (by rw [up_ne (by omega)]; exact h.2.2.2.2.2.2.2)
theorem MF.t0 (M : Mem) (x : Int) : MF M (up M 159 0 x) := fun u v hu => up_ne (by omega)
theorem MF.tr {M M1 M2 : Mem} (h1 : MF M M1) (h2 : MF M1 M2) : MF M M2 := fun u v hu => (h2 u v hu).trans (h1 u v hu)
theorem rfA_im {s : AS} {e : Nat} (he : e = 1 ∨ e = 2) : ∀ u v, ¬ (u = 10 ∧ (v = 10 ∨ v = 11)) → (rfA s e).2.1 u v = s.2.1 u v := fun u v h => by
  show up s.2.1 10 (9 + e) _ u v = _
  rw [up_ne (by omega)]
theorem Mdl.rf {M : Mem} {s : AS} (h : Mdl M s) {e : Nat} (he : e = 1 ∨ e = 2) (w : Int) : Mdl (up (up M 159 0 w) 161 (e - 1) (f_add (M 161 (e - 1)) 1)) (rfA s e) := by
  have h0 := (h.t0 w)
  generalize up M 159 0 w = M1 at h0
  have ee : ∀ u v, ¬ (u = 10 ∧ (v = 10 ∨ v = 11)) → (rfA s e).2.1 u v = s.2.1 u v := rfA_im he
  have k : ∀ u v, ¬ u = 161 → up M1 161 (e - 1) (f_add (M 161 (e - 1)) 1) u v = M1 u v := fun u v hu => up_ne (by omega)
  obtain ⟨g1, g2, g3, ⟨⟨i1, i1'⟩, i2, i3⟩, ⟨⟨t1, t1'⟩, t2, t3, t4⟩, r, w1', w2⟩ := h0
  have ei : nI3 (rfA s e) = nI3 s := by unfold nI3; rw [ee _ _ (by omega)]
  have r0 := h.2.2.2.2.2.1
  refine ⟨⟨g1.1, ?_⟩, ⟨g2.1, ?_⟩, ⟨g3.1, ?_⟩, ⟨⟨by rw [ee _ _ (by omega)]; exact i1, by rw [ei]; exact i1'⟩, by rw [ee _ _ (by omega), k _ _ (by omega)]; exact i2, ?_⟩, ⟨⟨by rw [ee _ _ (by omega)]; exact t1, fun i hi => by rw [ee _ _ (by omega)]; exact t1' i hi⟩, by rw [ee _ _ (by omega), k _ _ (by omega)]; exact t2, by rw [ee _ _ (by omega), k _ _ (by omega)]; exact t3, fun i hi => by rw [ee _ _ (by omega), k _ _ (by omega)]; exact t4 i hi⟩, ?_, by rw [k _ _ (by omega)]; exact w1', by rw [k _ _ (by omega)]; exact w2⟩
  · obtain ⟨-, a, b, c, d, f⟩ := g1
    refine ⟨by rw [k _ _ (by omega), k _ _ (by omega), k _ _ (by omega), k _ _ (by omega), k _ _ (by omega)]; exact a, fun p hp => ?_, fun p hp => ?_, fun p hp => ?_, fun p hp => ?_⟩
    · rw [k _ _ (by omega), k _ _ (by omega)]; exact b p hp
    · rw [k _ _ (by omega), k _ _ (by omega), k _ _ (by omega), k _ _ (by omega)]; exact c p hp
    · rw [k _ _ (by omega)]; exact d p hp
    · rw [k _ _ (by omega), k _ _ (by omega), k _ _ (by omega)]; exact f p hp
  · refine ⟨by rw [k _ _ (by omega)]; exact g2.2.1, fun i hi => ?_⟩
    rw [k _ _ (by omega), k _ _ (by omega), k _ _ (by omega), k _ _ (by omega)]; exact g2.2.2 i hi
  · refine ⟨by rw [k _ _ (by omega)]; exact g3.2.1, fun i hi => ?_⟩
    rw [k _ _ (by omega), k _ _ (by omega), k _ _ (by omega)]; exact g3.2.2 i hi
  · intro i hi
    rw [ei] at hi
    obtain ⟨k1, k2, k3, k4⟩ := i3 i hi
    exact ⟨by rw [k _ _ (by omega)]; exact k1, by rw [k _ _ (by omega)]; exact k2, fun j c hj hc => by rw [k _ _ (by omega)]; exact k3 j c hj hc, fun j c hj hc => by rw [k _ _ (by omega)]; exact k4 j c hj hc⟩
  · rcases he with rfl | rfl
    · refine ⟨?_, ?_⟩
      · rw [up_eq]
        show f_add (M 161 0) 1 = up s.2.1 10 10 (f_add (s.2.1 10 10) 1) 10 10
        rw [up_eq, r0.1]
      · rw [up_ne (by omega), r.2]
        show _ = up s.2.1 10 10 (f_add (s.2.1 10 10) 1) 10 11
        rw [up_ne (by omega)]
    · refine ⟨?_, ?_⟩
      · rw [up_ne (by omega), r.1]
        show _ = up s.2.1 10 11 (f_add (s.2.1 10 11) 1) 10 10
        rw [up_ne (by omega)]
      · rw [up_eq]
        show f_add (M 161 1) 1 = up s.2.1 10 11 (f_add (s.2.1 10 11) 1) 10 11
        rw [up_eq, r0.2]
/-- a refused call -/
theorem m_no {M : Mem} {s : AS} {cd : Nat → Int} {Q : Option Vl → Mem → Prop} (hM : Mdl M s) (e : Nat) (w : Int) (he : e = 1 ∨ e = 2) (hcd : w = cd e) {a : An} (ha : a = nay s e) (r : Int)
    (hQ : ∀ (M' : Mem) (r : Int), MF M M' → Mdl M' a.2.2 → M' 159 0 = cd a.1 → (a.1 = 0 → r = a.2.1) → Q (some (vI r)) M') : Q (some (vI r)) (up (up (up M 159 0 0) 159 0 w) 161 (e - 1) (f_add (up M 159 0 0 161 (e - 1)) 1)) := by
  subst ha
  refine hQ _ r ?_ ((hM.t0 0).rf he w) ?_ (fun z => ?_)
  · exact (MF.t0 M 0).tr ((MF.t0 _ w).tr (fun u v hu => up_ne (by omega)))
  · rw [up_ne (by omega), up_eq]; exact hcd
  · have z : e = 0 := z
    omega
