--BLTRUE
/-! the first state -/
theorem lkz {a j : Nat} : ∀ {L : UL}, lku a j L = none → um (L ++ []) a j = 0
  | [], _ => rfl
  | (b, i, w) :: L, h => by
    rw [lku] at h
    show up (um (L ++ [])) b i w a j = 0
    unfold up
    split at h
    · cases h
    · rename_i q
      rw [if_neg (fun z => by rw [z.1, z.2, Nat.beq_refl, Nat.beq_refl] at q; cases q)]
      exact lkz h
theorem um_in {a b : Int} (ha : a ≤ 0) (hb : 0 ≤ b) : ∀ {L : UL}, L.all (fun e => decide (a ≤ e.2.2) && decide (e.2.2 ≤ b)) = true → ∀ k j, a ≤ um (L ++ []) k j ∧ um (L ++ []) k j ≤ b
  | [], _, k, j => ⟨ha, hb⟩
  | (c, i, w) :: L, h, k, j => by
    rw [List.all_cons, Bool.and_eq_true, Bool.and_eq_true] at h
    show a ≤ up (um (L ++ [])) c i w k j ∧ up (um (L ++ [])) c i w k j ≤ b
    unfold up
    by_cases q : k = c ∧ j = i
    · rw [if_pos q]
      exact ⟨of_decide_eq_true h.1.1, of_decide_eq_true h.1.2⟩
    · rw [if_neg q]
      exact um_in ha hb h.2 k j
def M0 : Mem := um (us_L ++ [])
theorem m0v {a j : Nat} {v : Int} (h : lku a j us_L = some v) : M0 a j = v := um_lk h
theorem m0z {a j : Nat} (h : lku a j us_L = none) : M0 a j = 0 := lkz h
theorem m0o {a : Nat} (h : offs a us_L = true) (j : Nat) : M0 a j = 0 := by
  unfold M0
  rw [List.append_nil]
  refine um_off (fun e he => ?_) j
  have := List.all_eq_true.mp h e he
  intro z
  rw [z] at this
  simp at this
theorem rng0 : rng M0 := by
  intro k j
  have h := um_in (a := -1) (b := 1000) (by decide) (by decide) (L := us_L) (by decide +kernel) k j
  have h2 : -1 ≤ M0 k j ∧ M0 k j ≤ 1000 := h
  by_cases q : (SH k).1 = 4
  · rw [if_pos q]
    unfold okL
    omega
  · rw [if_neg q]
    unfold okI
    omega
def nzr (a j : Nat) : Bool := match lku a j us_L with
  | some v => !(decide (v = 0))
  | none => false
theorem nz_of {a j : Nat} (h : nzr a j = true) : M0 a j ≠ 0 := by
  unfold nzr at h
  split at h
  · rename_i v hv
    rw [m0v hv]
    intro q
    rw [q] at h
    simp at h
  · cases h
def okf (k : Nat) : Bool := match Nat.beq (SH k).1 0 with
  | true => (List.range (NF (SH k).2.1)).all (fun j => Nat.ble (FK (SH k).2.1 j).1 1 || nzr k j)
  | false => Nat.ble (SH k).1 4 || (List.range (SH k).2.1).all (fun j => nzr k j)
theorem okf_all : (List.range 337).all okf = true := by decide +kernel
theorem P_true {D : va_G} {ca : Nat → ClassId} {ad : Nat → Nat} {H : Heap} (hP : va_P D vwCl (mk false ca ad M0) H) : va_P D vwCl (mk true ca ad M0) H := by
  have hcf : cnt false M0 = 337 := by
    rw [cnt_f, m0v (v := 337) (by decide +kernel)]
    rfl
  intro k q hk
  obtain ⟨hk1, rfl⟩ := mk_some hk
  have hk7 : k < 337 := hk1
  have h := hP k _ (mk_at (by rw [hcf]; exact hk7))
  have hc := List.all_eq_true.mp okf_all k (List.mem_range.mpr hk7)
  unfold okf at hc
  split at hc
  · rename_i h0
    have h0 : (SH k).1 = 0 := Nat.eq_of_beq_eq_true h0
    have e : el true ca ad M0 k = el false ca ad M0 k := by
      unfold el
      rw [if_pos h0, if_pos h0]
      congr 2
      refine List.map_congr_left (fun j hj => ?_)
      have hz := List.all_eq_true.mp hc j hj
      rw [Bool.or_eq_true] at hz
      unfold fv
      rcases hz with z | z
      · have z := Nat.le_of_ble_eq_true z
        rw [if_neg (by omega), if_neg (by omega), if_neg (by omega), if_neg (by omega)]
      · have z := nz_of z
        rw [if_neg (show ¬ (true = false ∧ M0 k j = 0) from fun q => nomatch q.1), if_neg (show ¬ (false = false ∧ M0 k j = 0) from fun q => z q.2), if_neg (show ¬ (true = false ∧ M0 k j = 0) from fun q => nomatch q.1), if_neg (show ¬ (false = false ∧ M0 k j = 0) from fun q => z q.2)]
    rw [e]
    exact h
  · rename_i h0
    have h0 : (SH k).1 ≠ 0 := fun q => by rw [q] at h0; cases h0
    rcases Nat.lt_or_ge 4 (SH k).1 with h4 | h4
    · rw [Bool.or_eq_true] at hc
      rcases hc with z | z
      · have z := Nat.le_of_ble_eq_true z
        omega
      · rw [el_af rfl h4] at h
        have e : el true ca ad M0 k = .inl (ca (SH k).1, (SH k).2.1, .inr (.inr (.inr (.inr (fun j => some (ad ((SH k).2.2.1 + (SH k).2.2.2 * j))))))) := by
          unfold el
          rw [if_neg h0, if_neg (by omega), if_neg (by omega)]
          congr 7
        rw [e]
        have h1 : H[ad k]? = some (vp_cell _ _) := h
        show H[ad k]? = some (vp_cell _ _)
        rw [h1, vp_cell_q, vp_cell_q]
        congr 1
        unfold arrV
        congr 2
        funext j
        have zj := nz_of (List.all_eq_true.mp z j.val (List.mem_range.mpr j.isLt))
        show va_rf (if M0 k j.val = 0 then none else some _) = va_rf (some _)
        rw [if_neg zj]
    · have e : el true ca ad M0 k = el false ca ad M0 k := by
        unfold el
        rw [if_neg h0, if_neg h0]
        by_cases q : (SH k).1 = 4
        · rw [if_pos q, if_pos q]
        · rw [if_neg q, if_neg q, if_pos (by omega), if_pos (by omega)]
      rw [e]
      exact h
def s0 : AS := (Ab0, up Ab0 10 9 (-1), fun _ => Ab0)
theorem s0_at {u v : Nat} (h : ¬ (u = 10 ∧ v = 9)) : s0.2.1 u v = 0 := by
  show up Ab0 10 9 (-1) u v = 0
  unfold up
  rw [if_neg h]
  rfl
theorem nil0 {k : Nat} {P : Prop} (h : k < (0 : Int).toNat) : P := absurd h (Nat.not_lt_zero _)
theorem hall0 : HallOK Ab0 := ⟨by decide, by decide, by decide, by decide, by decide, fun _ h => nil0 h, fun _ h => nil0 h, fun _ h => nil0 h, fun _ h => nil0 h⟩
theorem loan0 : LoanOK Ab0 11 (Ab0 10 5) := ⟨by decide, fun _ h => nil0 h⟩
theorem vote0 : VoteOK Ab0 15 (Ab0 10 6) := ⟨by decide, fun _ h => nil0 h⟩
theorem im0 : ImOK s0 := ⟨by rw [s0_at (by decide)]; decide, fun i h => by unfold nI3 at h; rw [s0_at (by decide)] at h; exact nil0 h⟩
theorem ta0 : TaOK s0 := ⟨by rw [s0_at (by decide)]; decide, fun i h => by rw [s0_at (by omega)]; decide⟩
theorem no_im {i : Nat} {P : Prop} (h : i < nI3 s0) : P := by unfold nI3 at h; rw [s0_at (by decide)] at h; exact nil0 h
theorem w8_0 : w8 0 = 0 := by decide
theorem cls0 : Cls M0 s0 := by
  have a1 : (M0 0 1).toNat = 3 := by rw [m0v (v := 3) (by decide +kernel)]; rfl
  have a2 : (M0 0 2).toNat = 14 := by rw [m0v (v := 14) (by decide +kernel)]; rfl
  have a3 : (M0 0 3).toNat = 25 := by rw [m0v (v := 25) (by decide +kernel)]; rfl
  have a4 : (M0 0 4).toNat = 30 := by rw [m0v (v := 30) (by decide +kernel)]; rfl
  refine ⟨⟨Or.inl a1, Or.inl a3, ?_, ?_, hall0, loan0⟩, Or.inl ⟨a1, a2⟩, Or.inl ⟨a3, a4⟩, ⟨⟨m0z (by decide +kernel), fun _ h => nil0 h⟩, vote0⟩, ⟨im0, ?_, fun i h => no_im h⟩, ⟨ta0, ?_, ?_, fun i hi => ?_⟩, ⟨?_, ?_⟩, fun h => absurd (m0z (by decide +kernel)) h, fun h => absurd (m0z (by decide +kernel)) h⟩
  · rw [a1]
    exact ⟨m0z (by decide +kernel), m0z (by decide +kernel), m0z (by decide +kernel), m0z (by decide +kernel), m0z (by decide +kernel), fun _ h => nil0 h, fun _ h => nil0 h, fun _ h => nil0 h, fun _ h => nil0 h⟩
  · rw [a3]
    exact ⟨m0z (by decide +kernel), fun _ h => nil0 h⟩
  · rw [s0_at (by decide)]
    exact m0z (by decide +kernel)
  · rw [s0_at (by decide)]
    exact m0z (by decide +kernel)
  · exact m0v (by decide +kernel)
  · rw [s0_at (by omega), w8_0]
    exact m0o (by decide +kernel) i
  · rw [s0_at (by decide)]
    exact m0z (by decide +kernel)
  · rw [s0_at (by decide)]
    exact m0z (by decide +kernel)
theorem mdl0 : Mdl M0 s0 := by
  refine ⟨⟨hall0, ⟨m0o (by decide +kernel) 0, m0o (by decide +kernel) 1, m0o (by decide +kernel) 2, m0o (by decide +kernel) 3, m0o (by decide +kernel) 4⟩, fun _ h => nil0 h, fun _ h => nil0 h, fun _ h => nil0 h, fun _ h => nil0 h⟩, ⟨loan0, m0z (by decide +kernel), fun _ h => nil0 h⟩, ⟨vote0, m0z (by decide +kernel), fun _ h => nil0 h⟩, ⟨im0, ?_, fun i h => no_im h⟩, ⟨ta0, ?_, ?_, fun i hi => ?_⟩, ⟨?_, ?_⟩, m0v (by decide +kernel), ?_, ?_⟩
  · rw [s0_at (by decide)]
    exact m0z (by decide +kernel)
  · rw [s0_at (by decide)]
    exact m0z (by decide +kernel)
  · exact m0v (by decide +kernel)
  · rw [s0_at (by omega)]
    exact m0o (by decide +kernel) i
  · rw [s0_at (by decide)]
    exact m0o (by decide +kernel) 0
  · rw [s0_at (by decide)]
    exact m0o (by decide +kernel) 1
  · rw [m0z (by decide +kernel)]
    decide
  · rw [m0z (by decide +kernel)]
    decide
