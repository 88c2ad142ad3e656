theorem RdP_m {M M' Ab : Mem} {v0 v1 v2 : Int} (h : RdP M Ab) (hA : HallOK (up (up (up (up Ab 7 (nM Ab) v0) 8 (nM Ab) v1) 9 (nM Ab) v2) 10 4 (Ab 10 4 + 1)))
    (f : ∀ u v, RdC u → ¬ u = 217 + nM Ab → ¬ (u = 162 ∧ v = 3) → M' u v = M u v) (e0 : M' (217 + nM Ab) 0 = v0) (e1 : M' (217 + nM Ab) 1 = v1) (e2 : M' (217 + nM Ab) 2 = v2) (e3 : M' 162 3 = Ab 10 4 + 1) : RdP M' (up (up (up (up Ab 7 (nM Ab) v0) 8 (nM Ab) v1) 9 (nM Ab) v2) 10 4 (Ab 10 4 + 1)) := by
  obtain ⟨ho, ⟨a0, a1, a2, a3, a4⟩, h1, h2, h3, h4⟩ := h
  have p1 := (nP_le ho).1
  have t1 := (nT_le ho).1
  have m2 := nM_le ho
  generalize hAA : up (up (up (up Ab 7 (nM Ab) v0) 8 (nM Ab) v1) 9 (nM Ab) v2) 10 4 (Ab 10 4 + 1) = A at hA
  have g : ∀ u v, ¬ (7 ≤ u ∧ u ≤ 9 ∧ v = nM Ab) → ¬ (u = 10 ∧ v = 4) → A u v = Ab u v := fun u v h1 h3 => by rw [← hAA, up_ne h3, up_ne (by omega), up_ne (by omega), up_ne (by omega)]
  have c1 : A 10 4 = Ab 10 4 + 1 := by rw [← hAA]; exact up_eq
  have nm : nM A = nM Ab + 1 := by unfold nM; rw [c1]; have := ho.2.2.2.1; omega
  have np : nP A = nP Ab := by unfold nP; rw [g _ _ (by omega) (by omega)]
  have nd : nD A = nD Ab := by unfold nD; rw [g _ _ (by omega) (by omega)]
  have nt : nT A = nT Ab := by unfold nT; rw [g _ _ (by omega) (by omega)]
  have m9 : nM Ab < 8 := by have := nM_le hA; omega
  have k : ∀ u v, RdC u → ¬ u = 217 + nM Ab → ¬ (u = 162 ∧ v = 3) → M' u v = M u v := f
  refine ⟨hA, ⟨?_, ?_, ?_, ?_, ?_⟩, fun p hp => ?_, fun t ht => ?_, fun d hd => ?_, fun m hm => ?_⟩
  · rw [k _ _ (by unfold RdC; omega) (by omega) (by omega), g _ _ (by omega) (by omega)]; exact a0
  · rw [k _ _ (by unfold RdC; omega) (by omega) (by omega), g _ _ (by omega) (by omega)]; exact a1
  · rw [k _ _ (by unfold RdC; omega) (by omega) (by omega), g _ _ (by omega) (by omega)]; exact a2
  · rw [c1]; exact e3
  · rw [k _ _ (by unfold RdC; omega) (by omega) (by omega), g _ _ (by omega) (by omega)]; exact a4
  · rw [np] at hp
    rw [k _ _ (by unfold RdC; omega) (by omega) (by omega), k _ _ (by unfold RdC; omega) (by omega) (by omega), g _ _ (by omega) (by omega), g _ _ (by omega) (by omega)]; exact h1 p hp
  · rw [nt] at ht
    rw [k _ _ (by unfold RdC; omega) (by omega) (by omega), k _ _ (by unfold RdC; omega) (by omega) (by omega), k _ _ (by unfold RdC; omega) (by omega) (by omega), k _ _ (by unfold RdC; omega) (by omega) (by omega), g _ _ (by omega) (by omega), g _ _ (by omega) (by omega), g _ _ (by omega) (by omega), g _ _ (by omega) (by omega)]; exact h2 t ht
  · rw [nd] at hd
    rw [k _ _ (by unfold RdC; omega) (by omega) (by omega), g _ _ (by omega) (by omega)]; exact h3 d hd
  · rw [nm] at hm
    by_cases q : m = nM Ab
    · subst q
      rw [e0, e1, e2, ← hAA]
      refine ⟨?_, ?_, ?_⟩
      · rw [up_ne (by omega), up_ne (by omega), up_ne (by omega), up_eq]
      · rw [up_ne (by omega), up_ne (by omega), up_eq]
      · rw [up_ne (by omega), up_eq]
    · rw [k _ _ (by unfold RdC; omega) (by omega) (by omega), k _ _ (by unfold RdC; omega) (by omega) (by omega), k _ _ (by unfold RdC; omega) (by omega) (by omega), g _ _ (by omega) (by omega), g _ _ (by omega) (by omega), g _ _ (by omega) (by omega)]; exact h4 m (by omega)
theorem RdP_p {M M' Ab : Mem} {v0 v1 : Int} (h : RdP M Ab) (hA : HallOK (up (up (up Ab 4 (nP Ab) v0) 5 (nP Ab) v1) 10 1 (Ab 10 1 + 1)))
    (f : ∀ u v, RdC u → ¬ u = 165 + nP Ab → ¬ (u = 162 ∧ v = 0) → M' u v = M u v) (e0 : M' (165 + nP Ab) 0 = v0) (e1 : M' (165 + nP Ab) 1 = v1) (e3 : M' 162 0 = Ab 10 1 + 1) : RdP M' (up (up (up Ab 4 (nP Ab) v0) 5 (nP Ab) v1) 10 1 (Ab 10 1 + 1)) := by
  obtain ⟨ho, ⟨a0, a1, a2, a3, a4⟩, h1, h2, h3, h4⟩ := h
  have p1 := (nP_le ho).1
  have t1 := (nT_le ho).1
  have m2 := nM_le ho
  generalize hAA : up (up (up Ab 4 (nP Ab) v0) 5 (nP Ab) v1) 10 1 (Ab 10 1 + 1) = A at hA
  have g : ∀ u v, ¬ (4 ≤ u ∧ u ≤ 5 ∧ v = nP Ab) → ¬ (u = 10 ∧ v = 1) → A u v = Ab u v := fun u v h1 h3 => by rw [← hAA, up_ne h3, up_ne (by omega), up_ne (by omega)]
  have c1 : A 10 1 = Ab 10 1 + 1 := by rw [← hAA]; exact up_eq
  have np : nP A = nP Ab + 1 := by unfold nP; rw [c1]; have := ho.1; omega
  have nm : nM A = nM Ab := by unfold nM; rw [g _ _ (by omega) (by omega)]
  have nd : nD A = nD Ab := by unfold nD; rw [g _ _ (by omega) (by omega)]
  have nt : nT A = nT Ab := by unfold nT; rw [g _ _ (by omega) (by omega)]
  have m9 : nP Ab < 10 := by have := nP_le hA; omega
  have k : ∀ u v, RdC u → ¬ u = 165 + nP Ab → ¬ (u = 162 ∧ v = 0) → M' u v = M u v := f
  refine ⟨hA, ⟨?_, ?_, ?_, ?_, ?_⟩, fun p hp => ?_, fun t ht => ?_, fun d hd => ?_, fun m hm => ?_⟩
  · rw [c1]; exact e3
  · rw [k _ _ (by unfold RdC; omega) (by omega) (by omega), g _ _ (by omega) (by omega)]; exact a1
  · rw [k _ _ (by unfold RdC; omega) (by omega) (by omega), g _ _ (by omega) (by omega)]; exact a2
  · rw [k _ _ (by unfold RdC; omega) (by omega) (by omega), g _ _ (by omega) (by omega)]; exact a3
  · rw [k _ _ (by unfold RdC; omega) (by omega) (by omega), g _ _ (by omega) (by omega)]; exact a4
  · rw [np] at hp
    by_cases q : p = nP Ab
    · subst q
      rw [e0, e1, ← hAA]
      refine ⟨?_, ?_⟩
      · rw [up_ne (by omega), up_ne (by omega), up_eq]
      · rw [up_ne (by omega), up_eq]
    · rw [k _ _ (by unfold RdC; omega) (by omega) (by omega), k _ _ (by unfold RdC; omega) (by omega) (by omega), g _ _ (by omega) (by omega), g _ _ (by omega) (by omega)]; exact h1 p (by omega)
  · rw [nt] at ht
    rw [k _ _ (by unfold RdC; omega) (by omega) (by omega), k _ _ (by unfold RdC; omega) (by omega) (by omega), k _ _ (by unfold RdC; omega) (by omega) (by omega), k _ _ (by unfold RdC; omega) (by omega) (by omega), g _ _ (by omega) (by omega), g _ _ (by omega) (by omega), g _ _ (by omega) (by omega), g _ _ (by omega) (by omega)]; exact h2 t ht
  · rw [nd] at hd
    rw [k _ _ (by unfold RdC; omega) (by omega) (by omega), g _ _ (by omega) (by omega)]; exact h3 d hd
  · rw [nm] at hm
    rw [k _ _ (by unfold RdC; omega) (by omega) (by omega), k _ _ (by unfold RdC; omega) (by omega) (by omega), k _ _ (by unfold RdC; omega) (by omega) (by omega), g _ _ (by omega) (by omega), g _ _ (by omega) (by omega), g _ _ (by omega) (by omega)]; exact h4 m hm
theorem RdP_t {M M' Ab : Mem} {v0 v1 v2 v3 : Int} (h : RdP M Ab) (hA : HallOK (up (up (up (up (up Ab 0 (nT Ab) v0) 1 (nT Ab) v1) 2 (nT Ab) v2) 3 (nT Ab) v3) 10 2 (Ab 10 2 + 1)))
    (f : ∀ u v, RdC u → ¬ u = 187 + nT Ab → ¬ (u = 162 ∧ v = 1) → M' u v = M u v) (e0 : M' (187 + nT Ab) 0 = v0) (e1 : M' (187 + nT Ab) 1 = v1) (e2 : M' (187 + nT Ab) 2 = v2) (e3 : M' (187 + nT Ab) 3 = v3) (e4 : M' 162 1 = Ab 10 2 + 1) : RdP M' (up (up (up (up (up Ab 0 (nT Ab) v0) 1 (nT Ab) v1) 2 (nT Ab) v2) 3 (nT Ab) v3) 10 2 (Ab 10 2 + 1)) := by
  obtain ⟨ho, ⟨a0, a1, a2, a3, a4⟩, h1, h2, h3, h4⟩ := h
  have p1 := (nP_le ho).1
  have t1 := (nT_le ho).1
  have m2 := nM_le ho
  generalize hAA : up (up (up (up (up Ab 0 (nT Ab) v0) 1 (nT Ab) v1) 2 (nT Ab) v2) 3 (nT Ab) v3) 10 2 (Ab 10 2 + 1) = A at hA
  have g : ∀ u v, ¬ (u ≤ 3 ∧ v = nT Ab) → ¬ (u = 10 ∧ v = 2) → A u v = Ab u v := fun u v h1 h3 => by rw [← hAA, up_ne h3, up_ne (by omega), up_ne (by omega), up_ne (by omega), up_ne (by omega)]
  have c1 : A 10 2 = Ab 10 2 + 1 := by rw [← hAA]; exact up_eq
  have nt : nT A = nT Ab + 1 := by unfold nT; rw [c1]; have := ho.2.1; omega
  have nm : nM A = nM Ab := by unfold nM; rw [g _ _ (by omega) (by omega)]
  have nd : nD A = nD Ab := by unfold nD; rw [g _ _ (by omega) (by omega)]
  have np : nP A = nP Ab := by unfold nP; rw [g _ _ (by omega) (by omega)]
  have m9 : nT Ab < 14 := by have := nT_le hA; omega
  have k : ∀ u v, RdC u → ¬ u = 187 + nT Ab → ¬ (u = 162 ∧ v = 1) → M' u v = M u v := f
  refine ⟨hA, ⟨?_, ?_, ?_, ?_, ?_⟩, fun p hp => ?_, fun t ht => ?_, fun d hd => ?_, fun m hm => ?_⟩
  · rw [k _ _ (by unfold RdC; omega) (by omega) (by omega), g _ _ (by omega) (by omega)]; exact a0
  · rw [c1]; exact e4
  · rw [k _ _ (by unfold RdC; omega) (by omega) (by omega), g _ _ (by omega) (by omega)]; exact a2
  · rw [k _ _ (by unfold RdC; omega) (by omega) (by omega), g _ _ (by omega) (by omega)]; exact a3
  · rw [k _ _ (by unfold RdC; omega) (by omega) (by omega), g _ _ (by omega) (by omega)]; exact a4
  · rw [np] at hp
    rw [k _ _ (by unfold RdC; omega) (by omega) (by omega), k _ _ (by unfold RdC; omega) (by omega) (by omega), g _ _ (by omega) (by omega), g _ _ (by omega) (by omega)]; exact h1 p hp
  · rw [nt] at ht
    by_cases q : t = nT Ab
    · subst q
      rw [e0, e1, e2, e3, ← hAA]
      refine ⟨?_, ?_, ?_, ?_⟩
      · rw [up_ne (by omega), up_ne (by omega), up_ne (by omega), up_ne (by omega), up_eq]
      · rw [up_ne (by omega), up_ne (by omega), up_ne (by omega), up_eq]
      · rw [up_ne (by omega), up_ne (by omega), up_eq]
      · rw [up_ne (by omega), up_eq]
    · rw [k _ _ (by unfold RdC; omega) (by omega) (by omega), k _ _ (by unfold RdC; omega) (by omega) (by omega), k _ _ (by unfold RdC; omega) (by omega) (by omega), k _ _ (by unfold RdC; omega) (by omega) (by omega), g _ _ (by omega) (by omega), g _ _ (by omega) (by omega), g _ _ (by omega) (by omega), g _ _ (by omega) (by omega)]; exact h2 t (by omega)
  · rw [nd] at hd
    rw [k _ _ (by unfold RdC; omega) (by omega) (by omega), g _ _ (by omega) (by omega)]; exact h3 d hd
  · rw [nm] at hm
    rw [k _ _ (by unfold RdC; omega) (by omega) (by omega), k _ _ (by unfold RdC; omega) (by omega) (by omega), k _ _ (by unfold RdC; omega) (by omega) (by omega), g _ _ (by omega) (by omega), g _ _ (by omega) (by omega), g _ _ (by omega) (by omega)]; exact h4 m hm
theorem RdP_d {M M' Ab : Mem} {v0 : Int} (h : RdP M Ab) (hA : HallOK (up (up Ab 6 (nD Ab) v0) 10 3 (Ab 10 3 + 1)))
    (f : ∀ u v, RdC u → ¬ (u = 276 ∧ v = nD Ab) → ¬ (u = 162 ∧ v = 2) → M' u v = M u v) (e0 : M' 276 (nD Ab) = v0) (e3 : M' 162 2 = Ab 10 3 + 1) : RdP M' (up (up Ab 6 (nD Ab) v0) 10 3 (Ab 10 3 + 1)) := by
  obtain ⟨ho, ⟨a0, a1, a2, a3, a4⟩, h1, h2, h3, h4⟩ := h
  have p1 := (nP_le ho).1
  have t1 := (nT_le ho).1
  have m2 := nM_le ho
  generalize hAA : up (up Ab 6 (nD Ab) v0) 10 3 (Ab 10 3 + 1) = A at hA
  have g : ∀ u v, ¬ (u = 6 ∧ v = nD Ab) → ¬ (u = 10 ∧ v = 3) → A u v = Ab u v := fun u v h1 h3 => by rw [← hAA, up_ne h3, up_ne h1]
  have c1 : A 10 3 = Ab 10 3 + 1 := by rw [← hAA]; exact up_eq
  have nd : nD A = nD Ab + 1 := by unfold nD; rw [c1]; have := ho.2.2.1; omega
  have nm : nM A = nM Ab := by unfold nM; rw [g _ _ (by omega) (by omega)]
  have np : nP A = nP Ab := by unfold nP; rw [g _ _ (by omega) (by omega)]
  have nt : nT A = nT Ab := by unfold nT; rw [g _ _ (by omega) (by omega)]
  have k : ∀ u v, RdC u → ¬ (u = 276 ∧ v = nD Ab) → ¬ (u = 162 ∧ v = 2) → M' u v = M u v := f
  refine ⟨hA, ⟨?_, ?_, ?_, ?_, ?_⟩, fun p hp => ?_, fun t ht => ?_, fun d hd => ?_, fun m hm => ?_⟩
  · rw [k _ _ (by unfold RdC; omega) (by omega) (by omega), g _ _ (by omega) (by omega)]; exact a0
  · rw [k _ _ (by unfold RdC; omega) (by omega) (by omega), g _ _ (by omega) (by omega)]; exact a1
  · rw [c1]; exact e3
  · rw [k _ _ (by unfold RdC; omega) (by omega) (by omega), g _ _ (by omega) (by omega)]; exact a3
  · rw [k _ _ (by unfold RdC; omega) (by omega) (by omega), g _ _ (by omega) (by omega)]; exact a4
  · rw [np] at hp
    rw [k _ _ (by unfold RdC; omega) (by omega) (by omega), k _ _ (by unfold RdC; omega) (by omega) (by omega), g _ _ (by omega) (by omega), g _ _ (by omega) (by omega)]; exact h1 p hp
  · rw [nt] at ht
    rw [k _ _ (by unfold RdC; omega) (by omega) (by omega), k _ _ (by unfold RdC; omega) (by omega) (by omega), k _ _ (by unfold RdC; omega) (by omega) (by omega), k _ _ (by unfold RdC; omega) (by omega) (by omega), g _ _ (by omega) (by omega), g _ _ (by omega) (by omega), g _ _ (by omega) (by omega), g _ _ (by omega) (by omega)]; exact h2 t ht
  · rw [nd] at hd
    by_cases q : d = nD Ab
    · subst q
      rw [e0, ← hAA, up_ne (by omega), up_eq]
    · rw [k _ _ (by unfold RdC; omega) (by omega) (by omega), g _ _ (by omega) (by omega)]; exact h3 d (by omega)
  · rw [nm] at hm
    rw [k _ _ (by unfold RdC; omega) (by omega) (by omega), k _ _ (by unfold RdC; omega) (by omega) (by omega), k _ _ (by unfold RdC; omega) (by omega) (by omega), g _ _ (by omega) (by omega), g _ _ (by omega) (by omega), g _ _ (by omega) (by omega)]; exact h4 m hm
theorem RdP_l {M M' Ab : Mem} {v0 : Int} (h : RdP M Ab) (hA : HallOK (up Ab 10 0 v0)) (f : ∀ u v, RdC u → ¬ (u = 162 ∧ v = 4) → M' u v = M u v) (e0 : M' 162 4 = v0) : RdP M' (up Ab 10 0 v0) := by
  obtain ⟨ho, ⟨a0, a1, a2, a3, a4⟩, h1, h2, h3, h4⟩ := h
  have p1 := (nP_le ho).1
  have t1 := (nT_le ho).1
  have m2 := nM_le ho
  have k : ∀ u v, RdC u → ¬ (u = 162 ∧ v = 4) → M' u v = M u v := f
  refine ⟨hA, ⟨?_, ?_, ?_, ?_, ?_⟩, fun p hp => ?_, fun t ht => ?_, fun d hd => ?_, fun m hm => ?_⟩
  · rw [k _ _ (by unfold RdC; omega) (by omega)]; exact a0
  · rw [k _ _ (by unfold RdC; omega) (by omega)]; exact a1
  · rw [k _ _ (by unfold RdC; omega) (by omega)]; exact a2
  · rw [k _ _ (by unfold RdC; omega) (by omega)]; exact a3
  · rw [e0, up_eq]
  · have hp : p < nP Ab := hp
    rw [k _ _ (by unfold RdC; omega) (by omega), k _ _ (by unfold RdC; omega) (by omega)]; exact h1 p hp
  · have ht : t < nT Ab := ht
    rw [k _ _ (by unfold RdC; omega) (by omega), k _ _ (by unfold RdC; omega) (by omega), k _ _ (by unfold RdC; omega) (by omega), k _ _ (by unfold RdC; omega) (by omega)]; exact h2 t ht
  · have hd : d < nD Ab := hd
    rw [k _ _ (by unfold RdC; omega) (by omega)]; exact h3 d hd
  · have hm : m < nM Ab := hm
    rw [k _ _ (by unfold RdC; omega) (by omega), k _ _ (by unfold RdC; omega) (by omega), k _ _ (by unfold RdC; omega) (by omega)]; exact h4 m hm
