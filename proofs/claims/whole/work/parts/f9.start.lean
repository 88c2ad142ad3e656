--BLTRUE
/-! what the start gives -/
theorem arr_known {s : State} {args : Array Value} {t : FieldType} (h : (Cond.arrayClass t).before args s = true) : ∃ cA : ClassId, ArrOfT s cA t ∧ s.vm.findClass ("[" ++ t.toString) = some cA := by
  obtain ⟨cA, k, comp, h1, h2, h3⟩ := Cond.arrayClass_spec h
  exact ⟨cA, fun n z => ⟨fun k h => (by cases h), k, h2, comp, h3⟩, h1⟩
theorem over_known {s : State} {args : Array Value} {t : FieldType} (h : (Cond.arrayOver (.array t)).before args s = true) : ∃ cA : ClassId, ArrOfT s cA (.array t) ∧ s.vm.findClass ("[" ++ (FieldType.array t).toString) = some cA := by
  obtain ⟨comp, cA, k, -, h2, h3, h1⟩ := Cond.arrayOver_specA h
  exact ⟨cA, fun n z => ⟨fun k h => (by cases h), k, h2, comp, h3⟩, h1⟩
theorem over_knownO {s : State} {args : Array Value} {C : String} (h : (Cond.arrayOver (.object C)).before args s = true) : ∃ cA : ClassId, ArrOfT s cA (.object C) ∧ va_RA s cA (.object C) := by
  obtain ⟨comp, cA, k, h0, -, h2, h3, h1⟩ := Cond.arrayOver_spec h
  exact ⟨cA, fun n z => ⟨fun k h => (by cases h), k, h2, comp, h3⟩, k, comp, h2, h3, h0, h1⟩
theorem ao_any {t : FieldType} {s : State} {args : Array Value} (h : (Cond.arrayOver t).before args s = true) : AO t s := by
  unfold AO
  simp only [Cond.before, Cond.holds, Cond.value] at h ⊢
  exact h
section St
variable {s : State} {args : Array Value}
theorem st_K (hG : ∀ w ∈ GT, w.before args s = true) (hT : ∀ w ∈ lw_tbl, w.before args s = true) : ∃ (D : va_G) (ca : Nat → ClassId), va_K D vwCl (tys ca) s := by
  obtain ⟨c0, i0, k0⟩ := u_known (C := RX0) (T := TX0) (N := 4) (n := 4) hG gX0 (hG (.instantiable RX0 4) wg195)
  obtain ⟨c1, i1, k1⟩ := u_known (C := RX1) (T := TX1) (N := 3) (n := 3) hG gX1 (hG (.instantiable RX1 3) wg323)
  obtain ⟨c2, i2, k2⟩ := u_known (C := RX2) (T := TX2) (N := 8) (n := 8) hG gX2 (hG (.instantiable RX2 8) wg290)
  obtain ⟨c3, i3, k3⟩ := u_known (C := RX3) (T := TX3) (N := 5) (n := 5) hG gX3 (hG (.instantiable RX3 5) wg221)
  obtain ⟨c4, i4, k4⟩ := u_known (C := RX4) (T := TX4) (N := 7) (n := 7) hG gX4 (hG (.instantiable RX4 7) wg361)
  obtain ⟨c5, i5, k5⟩ := u_known (C := RX5) (T := TX5) (N := 5) (n := 5) hG gX5 (hG (.instantiable RX5 5) wg167)
  obtain ⟨c6, i6, k6⟩ := u_known (C := RX6) (T := TX6) (N := 15) (n := 15) hG gX6 (hG (.instantiable RX6 15) wg66)
  obtain ⟨c7, i7, k7⟩ := u_known (C := RX7) (T := TX7) (N := 5) (n := 5) hG gX7 (hG (.instantiable RX7 5) wg339)
  obtain ⟨c8, i8, k8⟩ := u_known (C := RX8) (T := TX8) (N := 9) (n := 9) hG gX8 (hG (.instantiable RX8 9) wg227)
  obtain ⟨c9, i9, k9⟩ := u_known (C := RX9) (T := TX9) (N := 7) (n := 7) hG gX9 (hG (.instantiable RX9 7) wg34)
  obtain ⟨c10, i10, k10⟩ := u_known (C := RX10) (T := TX10) (N := 18) (n := 18) hG gX10 (hG (.instantiable RX10 18) wg26)
  obtain ⟨c11, i11, k11⟩ := u_known (C := RX11) (T := TX11) (N := 46) (n := 46) hG gX11 (hG (.instantiable RX11 46) wg1192)
  obtain ⟨a1, ha1⟩ := arr_known (hT (.arrayClass .int) (List.mem_of_getElem? (i := 285) (by decide +kernel)))
  obtain ⟨a2, ha2⟩ := arr_known (hT (.arrayClass .byte) (List.mem_of_getElem? (i := 184) (by decide +kernel)))
  obtain ⟨a3, ha3⟩ := arr_known (hT (.arrayClass .boolean) (List.mem_of_getElem? (i := 1460) (by decide +kernel)))
  obtain ⟨a4, ha4⟩ := arr_known (hT (.arrayClass .long) (List.mem_of_getElem? (i := 1774) (by decide +kernel)))
  obtain ⟨a5, ha5⟩ := over_known (hT (.arrayOver (.array .int)) (List.mem_of_getElem? (i := 1318) (by decide +kernel)))
  obtain ⟨a6, ha6⟩ := over_known (hT (.arrayOver (.array (.array .int))) (List.mem_of_getElem? (i := 1320) (by decide +kernel)))
  obtain ⟨a7, ha7⟩ := over_knownO (hT (.arrayOver (.object RX5)) (List.mem_of_getElem? (i := 338) (by decide +kernel)))
  obtain ⟨a8, ha8⟩ := over_knownO (hT (.arrayOver (.object RX0)) (List.mem_of_getElem? (i := 339) (by decide +kernel)))
  refine ⟨(fun k => match k with
    | 0 => c0
    | 1 => c1
    | 2 => c2
    | 3 => c3
    | 4 => c4
    | 5 => c5
    | 6 => c6
    | 7 => c7
    | 8 => c8
    | 9 => c9
    | 10 => c10
    | _ => c11, fun k => match k with
    | 0 => i0
    | 1 => i1
    | 2 => i2
    | 3 => i3
    | 4 => i4
    | 5 => i5
    | 6 => i6
    | 7 => i7
    | 8 => i8
    | 9 => i9
    | 10 => i10
    | _ => i11), fun k => match k with
    | 1 => a1
    | 2 => a2
    | 3 => a3
    | 4 => a4
    | 5 => a5
    | 6 => a6
    | 7 => a7
    | _ => a8, ?_, ?_⟩
  · intro k q hq
    match k, hq with
    | 0, hq => cases hq; exact k0
    | 1, hq => cases hq; exact k1
    | 2, hq => cases hq; exact k2
    | 3, hq => cases hq; exact k3
    | 4, hq => cases hq; exact k4
    | 5, hq => cases hq; exact k5
    | 6, hq => cases hq; exact k6
    | 7, hq => cases hq; exact k7
    | 8, hq => cases hq; exact k8
    | 9, hq => cases hq; exact k9
    | 10, hq => cases hq; exact k10
    | 11, hq => cases hq; exact k11
    | k + 12, hq => simp [vwCl] at hq
  · intro k q hq
    match k, hq with
    | 0, hq => cases hq; exact ha1
    | 1, hq => cases hq; exact ha2
    | 2, hq => cases hq; exact ha3
    | 3, hq => cases hq; exact ha4
    | 4, hq => cases hq; exact ha5
    | 5, hq => cases hq; exact ha6
    | 6, hq => cases hq; exact ha7
    | 7, hq => cases hq; exact ha8
    | k + 8, hq => simp [tys] at hq
theorem st_N (hT : ∀ w ∈ lw_tbl, w.before args s = true) : ∀ w ∈ NT, va_Nw w s := by
  intro w hw
  have h1 := hT w (List.mem_append_right _ (List.mem_filter.mp hw).1)
  have h2 := (List.mem_filter.mp hw).2
  unfold isNest at h2
  split at h2
  · exact va_tabs rfl rfl h1
  · exact va_tabs rfl rfl h1
  · cases h2
theorem st_AO (hT : ∀ w ∈ lw_tbl, w.before args s = true) : AOs s := by
  refine ⟨?_, ?_, ?_, ?_⟩
  · exact ao_any (hT (.arrayOver (.object RX5)) (List.mem_of_getElem? (i := 338) (by decide +kernel)))
  · exact ao_any (hT (.arrayOver (.object RX0)) (List.mem_of_getElem? (i := 339) (by decide +kernel)))
  · exact ao_any (hT (.arrayOver (.array .int)) (List.mem_of_getElem? (i := 1318) (by decide +kernel)))
  · exact ao_any (hT (.arrayOver (.array (.array .int))) (List.mem_of_getElem? (i := 1320) (by decide +kernel)))
def tmS (i : Nat) : Term := match i with
  | 0 => .string "WeighedHall$Plan" 74
  | 1 => .string "WeighedHall$Plan" 87
  | 2 => .string "WeighedHall$Plan" 92
  | 3 => .string "WeighedHall$Plan" 96
  | 4 => .string "WeighedHall$Plan" 98
  | 5 => .string "WeighedHall$Plan" 103
  | _ => .string "WeighedHall$Loans" 37
def flat7 (h : Nat → Prop) : Prop := h 0 ∧ h 1 ∧ h 2 ∧ h 3 ∧ h 4 ∧ h 5 ∧ h 6
theorem all7 {h : Nat → Prop} (q : flat7 h) : ∀ i, i < 7 → h i := by
  intro i hi
  obtain ⟨q0, q1, q2, q3, q4, q5, q6⟩ := q
  rcases (show i = 0 ∨ i = 1 ∨ i = 2 ∨ i = 3 ∨ i = 4 ∨ i = 5 ∨ i = 6 by omega) with rfl | rfl | rfl | rfl | rfl | rfl | rfl
  · exact q0
  · exact q1
  · exact q2
  · exact q3
  · exact q4
  · exact q5
  · exact q6
theorem st_E {A : Nat → Prop} (hT : ∀ w ∈ lw_tbl, w.before args s = true) (hgv : (Jvm.Cond.and given_1 narrow_1).before args s = true) (hA : ∀ a : Nat, a < s.heap.size → ¬ A a) : ∃ sx sy : Nat → Nat, EX sx sy A s s.heap := by
  have hs := flat_of_before _ hgv
  obtain ⟨kx, ky, hS, hKx⟩ := vk_Sof (args := args) (s := s) (N := 7) (tm := tmS) (len := slen) (byt := sbyt) (A := A) (by decide) (all7 ⟨hs _ (by decide +kernel), hs _ (by decide +kernel), hs _ (by decide +kernel), hs _ (by decide +kernel), hs _ (by decide +kernel), hs _ (by decide +kernel), hs _ (by decide +kernel)⟩) (all7 ⟨hs _ (by decide +kernel), hs _ (by decide +kernel), hs _ (by decide +kernel), hs _ (by decide +kernel), hs _ (by decide +kernel), hs _ (by decide +kernel), hs _ (by decide +kernel)⟩) (all7 ⟨hs _ (by decide +kernel), hs _ (by decide +kernel), hs _ (by decide +kernel), hs _ (by decide +kernel), hs _ (by decide +kernel), hs _ (by decide +kernel), hs _ (by decide +kernel)⟩) (all7 ⟨hs _ (by decide +kernel), hs _ (by decide +kernel), hs _ (by decide +kernel), hs _ (by decide +kernel), hs _ (by decide +kernel), hs _ (by decide +kernel), hs _ (by decide +kernel)⟩)
    (all7 ⟨(fun j hj => by
      have hj : j < 6 := hj
      rcases (show j = 0 ∨ j = 1 ∨ j = 2 ∨ j = 3 ∨ j = 4 ∨ j = 5 by omega) with rfl | rfl | rfl | rfl | rfl | rfl
      · exact hs _ (by decide +kernel)
      · exact hs _ (by decide +kernel)
      · exact hs _ (by decide +kernel)
      · exact hs _ (by decide +kernel)
      · exact hs _ (by decide +kernel)
      · exact hs _ (by decide +kernel)), (fun j hj => by
      have hj : j < 5 := hj
      rcases (show j = 0 ∨ j = 1 ∨ j = 2 ∨ j = 3 ∨ j = 4 by omega) with rfl | rfl | rfl | rfl | rfl
      · exact hs _ (by decide +kernel)
      · exact hs _ (by decide +kernel)
      · exact hs _ (by decide +kernel)
      · exact hs _ (by decide +kernel)
      · exact hs _ (by decide +kernel)), (fun j hj => by
      have hj : j < 4 := hj
      rcases (show j = 0 ∨ j = 1 ∨ j = 2 ∨ j = 3 by omega) with rfl | rfl | rfl | rfl
      · exact hs _ (by decide +kernel)
      · exact hs _ (by decide +kernel)
      · exact hs _ (by decide +kernel)
      · exact hs _ (by decide +kernel)), (fun j hj => by
      have hj : j < 7 := hj
      rcases (show j = 0 ∨ j = 1 ∨ j = 2 ∨ j = 3 ∨ j = 4 ∨ j = 5 ∨ j = 6 by omega) with rfl | rfl | rfl | rfl | rfl | rfl | rfl
      · exact hs _ (by decide +kernel)
      · exact hs _ (by decide +kernel)
      · exact hs _ (by decide +kernel)
      · exact hs _ (by decide +kernel)
      · exact hs _ (by decide +kernel)
      · exact hs _ (by decide +kernel)
      · exact hs _ (by decide +kernel)), (fun j hj => by
      have hj : j < 6 := hj
      rcases (show j = 0 ∨ j = 1 ∨ j = 2 ∨ j = 3 ∨ j = 4 ∨ j = 5 by omega) with rfl | rfl | rfl | rfl | rfl | rfl
      · exact hs _ (by decide +kernel)
      · exact hs _ (by decide +kernel)
      · exact hs _ (by decide +kernel)
      · exact hs _ (by decide +kernel)
      · exact hs _ (by decide +kernel)
      · exact hs _ (by decide +kernel)), (fun j hj => by
      have hj : j < 3 := hj
      rcases (show j = 0 ∨ j = 1 ∨ j = 2 by omega) with rfl | rfl | rfl
      · exact hs _ (by decide +kernel)
      · exact hs _ (by decide +kernel)
      · exact hs _ (by decide +kernel)), (fun j hj => by
      have hj : j < 4 := hj
      rcases (show j = 0 ∨ j = 1 ∨ j = 2 ∨ j = 3 by omega) with rfl | rfl | rfl | rfl
      · exact hs _ (by decide +kernel)
      · exact hs _ (by decide +kernel)
      · exact hs _ (by decide +kernel)
      · exact hs _ (by decide +kernel))⟩)
    (by
      intro i j hi hj hij
      revert i j
      have key : ∀ i, i < 7 → ∀ j, j < i → (Cond.not (Cond.eq (tmS j) (tmS i))).before args s = true := all7 ⟨fun j hj => absurd hj (Nat.not_lt_zero _), (fun j hj => by
      rcases (show j = 0 by omega) with rfl
      · exact hs _ (by decide +kernel)), (fun j hj => by
      rcases (show j = 0 ∨ j = 1 by omega) with rfl | rfl
      · exact hs _ (by decide +kernel)
      · exact hs _ (by decide +kernel)), (fun j hj => by
      rcases (show j = 0 ∨ j = 1 ∨ j = 2 by omega) with rfl | rfl | rfl
      · exact hs _ (by decide +kernel)
      · exact hs _ (by decide +kernel)
      · exact hs _ (by decide +kernel)), (fun j hj => by
      rcases (show j = 0 ∨ j = 1 ∨ j = 2 ∨ j = 3 by omega) with rfl | rfl | rfl | rfl
      · exact hs _ (by decide +kernel)
      · exact hs _ (by decide +kernel)
      · exact hs _ (by decide +kernel)
      · exact hs _ (by decide +kernel)), (fun j hj => by
      rcases (show j = 0 ∨ j = 1 ∨ j = 2 ∨ j = 3 ∨ j = 4 by omega) with rfl | rfl | rfl | rfl | rfl
      · exact hs _ (by decide +kernel)
      · exact hs _ (by decide +kernel)
      · exact hs _ (by decide +kernel)
      · exact hs _ (by decide +kernel)
      · exact hs _ (by decide +kernel)), (fun j hj => by
      rcases (show j = 0 ∨ j = 1 ∨ j = 2 ∨ j = 3 ∨ j = 4 ∨ j = 5 by omega) with rfl | rfl | rfl | rfl | rfl | rfl
      · exact hs _ (by decide +kernel)
      · exact hs _ (by decide +kernel)
      · exact hs _ (by decide +kernel)
      · exact hs _ (by decide +kernel)
      · exact hs _ (by decide +kernel)
      · exact hs _ (by decide +kernel))⟩
      intro i j hi hj hij
      rcases Nat.lt_or_ge j i with q | q
      · exact Or.inr (key i hi j q)
      · exact Or.inl (key j hj i (by omega))) hA
  obtain ⟨a7, -, -, -, q7, -⟩ := Cond.exactly_spec (args := args) (first := s) (o := none) (s := s) (idx := []) (t := .string "WeighedHall" 350) (cls := "java/lang/String") (hs _ (by decide +kernel))
  obtain ⟨a8, -, -, -, q8, -⟩ := Cond.exactly_spec (args := args) (first := s) (o := none) (s := s) (idx := []) (t := .string "WeighedHall" 343) (cls := "java/lang/String") (hs _ (by decide +kernel))
  have esx : ∀ i, i < 7 → (if i < 7 then kx i else if i = 7 then a7 else a8) = kx i := fun i hi => if_pos hi
  refine ⟨fun i => if i < 7 then kx i else if i = 7 then a7 else a8, ky, ?_, ?_, ?_, ⟨fun i hi => ?_, fun i j hi hj hij => ?_⟩, ?_, ?_, ?_, ?_, ?_⟩
  · exact vx_Zqof (hT _ (List.mem_of_getElem? (i := 711) (by decide +kernel))) (hT _ (List.mem_of_getElem? (i := 133) (by decide +kernel))) (hs _ (by decide +kernel)) hA
  · exact vx_Zqof (hT _ (List.mem_of_getElem? (i := 713) (by decide +kernel))) (hT _ (List.mem_of_getElem? (i := 133) (by decide +kernel))) (hs _ (by decide +kernel)) hA
  · exact va_Zof (hT _ (List.mem_of_getElem? (i := 795) (by decide +kernel))) (hT _ (List.mem_of_getElem? (i := 138) (by decide +kernel))) (va_eqt (hs _ (by decide +kernel))) hA
  · dsimp only
    rw [esx i hi]
    exact hS.1 i hi
  · have hij : (if i < 7 then kx i else if i = 7 then a7 else a8) = (if j < 7 then kx j else if j = 7 then a7 else a8) := hij
    rw [esx i hi, esx j hj] at hij
    exact hS.2 i j hi hj hij
  · intro i q hq
    match i, hq with
    | 0, hq => cases hq; exact vk_R.of (A := args) (hT _ (List.mem_of_getElem? (i := 781) (by decide +kernel))) (hKx 0 (by decide))
    | 1, hq => cases hq; exact vk_R.of (A := args) (hT _ (List.mem_of_getElem? (i := 852) (by decide +kernel))) (hKx 1 (by decide))
    | 2, hq => cases hq; exact vk_R.of (A := args) (hT _ (List.mem_of_getElem? (i := 857) (by decide +kernel))) (hKx 2 (by decide))
    | 3, hq => cases hq; exact vk_R.of (A := args) (hT _ (List.mem_of_getElem? (i := 862) (by decide +kernel))) (hKx 3 (by decide))
    | 4, hq => cases hq; exact vk_R.of (A := args) (hT _ (List.mem_of_getElem? (i := 863) (by decide +kernel))) (hKx 4 (by decide))
    | 5, hq => cases hq; exact vk_R.of (A := args) (hT _ (List.mem_of_getElem? (i := 872) (by decide +kernel))) (hKx 5 (by decide))
    | 6, hq => cases hq; exact vk_R.of (A := args) (hT _ (List.mem_of_getElem? (i := 899) (by decide +kernel))) (hKx 6 (by decide))
    | 7, hq => cases hq; exact vk_R.of (A := args) (hT _ (List.mem_of_getElem? (i := 724) (by decide +kernel))) (q7)
    | 8, hq => cases hq; exact vk_R.of (A := args) (hT _ (List.mem_of_getElem? (i := 945) (by decide +kernel))) (q8)
    | i + 9, hq => simp [SRl] at hq
  · intro w hw
    obtain ⟨w1, w2⟩ := List.mem_filter.mp hw
    exact va_tabs (Bool.and_eq_true_iff.mp w2).1 rfl (hT w w1)
  · exact va_Zqof (hT _ (List.mem_of_getElem? (i := 811) (by decide +kernel))) (hT _ (List.mem_of_getElem? (i := 140) (by decide +kernel))) (hs _ (by decide +kernel)) hA
  · exact va_Nc.of (args := args) (hs _ (by decide +kernel))
  · exact va_Nc.of (args := args) (hs _ (by decide +kernel))
end St
