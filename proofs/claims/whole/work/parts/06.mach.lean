/-! THE ABSTRACT MACHINE: memory is cells of Ints; a value is an int, a cell, a long, or an address of something that is no cell of the system -/
abbrev Mem : Type := Nat → Nat → Int
abbrev Vl : Type := Int ⊕ (Nat ⊕ (Int ⊕ Nat))
abbrev Ls : Type := List (Option Vl)
abbrev St : Type := List Vl
abbrev Kt : Type := Ls → St → Mem → Prop
abbrev JT : Type := Nat → Ls → St → Mem → Prop
abbrev QT : Type := (Option Vl ⊕ Nat) → Mem → Prop
abbrev AT : Type := JT → QT → Kt → Ls → St → Mem → Prop
abbrev FT : Type := List Vl → Mem → QT → Prop
abbrev vI (x : Int) : Vl := Sum.inl x
abbrev vR (k : Nat) : Vl := Sum.inr (Sum.inl k)
abbrev vL (x : Int) : Vl := Sum.inr (Sum.inr (Sum.inl x))
abbrev vO (a : Nat) : Vl := Sum.inr (Sum.inr (Sum.inr a))
def vv (ad : Nat → Nat) (v : Vl) : Value := match v with
  | .inl x => .int (Int32.ofInt x)
  | .inr (.inl k) => .ref (ad k)
  | .inr (.inr (.inl x)) => .long (Int64.ofInt x)
  | .inr (.inr (.inr a)) => .ref a
def okv (v : Vl) : Prop := match v with
  | .inl x => okI x
  | .inr (.inl _) => True
  | .inr (.inr (.inl x)) => okL x
  | .inr (.inr (.inr _)) => True
def catv (v : Vl) : Nat := match v with
  | .inl _ => 1
  | .inr (.inl _) => 1
  | .inr (.inr (.inl _)) => 2
  | .inr (.inr (.inr _)) => 1
def nth {α : Type} : List α → Nat → Option α
  | [], _ => none
  | a :: _, 0 => some a
  | _ :: l, n + 1 => nth l n
def setL : Ls → Nat → Option Vl → Ls
  | [], _, _ => []
  | _ :: l, 0, v => v :: l
  | a :: l, n + 1, v => a :: setL l n v
/-- whether place i is the second half of a long -/
def half (ls : Ls) (i : Nat) : Bool := match i with
  | 0 => false
  | j + 1 => match nth ls j with
    | some (some (.inr (.inr (.inl _)))) => true
    | _ => false
def up (M : Mem) (k j : Nat) (v : Int) : Mem := fun a b => if a = k ∧ b = j then v else M a b
def fv (bl : Bool) (ad : Nat → Nat) (k c j : Nat) (x : Int) : Value :=
  if (FK c j).1 = 2 then (if bl = false ∧ x = 0 then .null else .ref (ad (k + (FK c j).2)))
  else if (FK c j).1 = 3 then (if bl = false ∧ x = 0 then .null else .ref (ad x.toNat))
  else .int (Int32.ofInt x)
def el (bl : Bool) (ca : Nat → ClassId) (ad : Nat → Nat) (M : Mem) (k : Nat) : va_E :=
  if (SH k).1 = 0 then .inr ((SH k).2.1, (List.range (NF (SH k).2.1)).map (fun j => fv bl ad k (SH k).2.1 j (M k j)))
  else if (SH k).1 = 4 then .inl (ca 4, (SH k).2.1, .inr (.inl (fun j => Int64.ofInt (M k j))))
  else if (SH k).1 < 4 then .inl (ca (SH k).1, (SH k).2.1, .inl (fun j => Int32.ofInt (M k j)))
  else .inl (ca (SH k).1, (SH k).2.1, .inr (.inr (.inr (.inr (fun j => if bl = false ∧ M k j = 0 then none else some (ad ((SH k).2.2.1 + (SH k).2.2.2 * j)))))))
def cnt (bl : Bool) (M : Mem) : Nat := if bl = true then 337 else (M 337 0).toNat
def mk (bl : Bool) (ca : Nat → ClassId) (ad : Nat → Nat) (M : Mem) : va_W := (List.range (cnt bl M)).map (fun k => (ad k, el bl ca ad M k))
def tys (ca : Nat → ClassId) : List (ClassId × FieldType) := [(ca 1, .int), (ca 2, .byte), (ca 3, .boolean), (ca 4, .long), (ca 5, .array .int), (ca 6, .array (.array .int)), (ca 7, .object RX5), (ca 8, .object RX0)]
def rng (M : Mem) : Prop := ∀ k j, if (SH k).1 = 4 then okL (M k j) else okI (M k j)
def lvA (nL : Nat) (ad : Nat → Nat) (ls : Ls) (lsA : Array Slot) : Prop := lsA.size = nL ∧ lv_wf lsA ∧ ls.length = nL ∧ ∀ (i : Nat) (v : Vl), nth ls i = some (some v) → lsA[i]? = some (.val (vv ad v))
def injA (ad : Nat → Nat) : Prop := ∀ i j, i < 337 → j < 337 → ad i = ad j → i = j
theorem nth_eq {α : Type} : ∀ (l : List α) (i : Nat), nth l i = l[i]?
  | [], i => by simp [nth]
  | a :: l, 0 => by simp [nth]
  | a :: l, i + 1 => by simp [nth, nth_eq l i]
theorem nth_mem {ls : Ls} {i : Nat} {v : Vl} (h : nth ls i = some (some v)) : some v ∈ ls := by
  rw [nth_eq] at h
  exact List.mem_of_getElem? h
theorem setL_eq : ∀ (l : Ls) (i : Nat) (v : Option Vl), setL l i v = l.set i v
  | [], i, v => by simp [setL]
  | a :: l, 0, v => by simp [setL]
  | a :: l, i + 1, v => by simp [setL, setL_eq l i v]
theorem setL_len (l : Ls) (i : Nat) (v : Option Vl) : (setL l i v).length = l.length := by rw [setL_eq, List.length_set]
theorem nth_setL_ne (l : Ls) {i j : Nat} (v : Option Vl) (h : i ≠ j) : nth (setL l i v) j = nth l j := by
  rw [setL_eq, nth_eq, nth_eq, List.getElem?_set_ne h]
theorem nth_setL_eq (l : Ls) {i : Nat} (v : Option Vl) (h : i < l.length) : nth (setL l i v) i = some v := by
  rw [setL_eq, nth_eq, List.getElem?_set_self h]
theorem setL_mem {l : Ls} {i : Nat} {v : Option Vl} {w : Vl} (h : some w ∈ setL l i v) : some w ∈ l ∨ v = some w := by
  rw [setL_eq] at h
  rcases List.mem_or_eq_of_mem_set h with h | h
  · exact Or.inl h
  · exact Or.inr h.symm
theorem cat_vv (ad : Nat → Nat) (v : Vl) : (vv ad v).category = catv v := by
  rcases v with x | k | x | a <;> rfl
theorem rng_up {M : Mem} {k j : Nat} {v : Int} (h : rng M) (hk : (SH k).1 ≠ 4) (hv : okI v) : rng (up M k j v) := by
  intro a b
  have := h a b
  unfold up
  by_cases hc : a = k ∧ b = j
  · rw [if_pos hc, if_neg (by rw [hc.1]; exact hk)]
    exact hv
  · rw [if_neg hc]
    exact this
theorem rng_upL {M : Mem} {k j : Nat} {v : Int} (h : rng M) (hk : (SH k).1 = 4) (hv : okL v) : rng (up M k j v) := by
  intro a b
  have := h a b
  unfold up
  by_cases hc : a = k ∧ b = j
  · rw [if_pos hc, if_pos (by rw [hc.1]; exact hk)]
    exact hv
  · rw [if_neg hc]
    exact this
theorem rng_I {M : Mem} (h : rng M) {k : Nat} (hk : (SH k).1 ≠ 4) (j : Nat) : okI (M k j) := by
  have := h k j
  rw [if_neg hk] at this
  exact this
theorem rng_L {M : Mem} (h : rng M) {k : Nat} (hk : (SH k).1 = 4) (j : Nat) : okL (M k j) := by
  have := h k j
  rw [if_pos hk] at this
  exact this
theorem mk_at {bl : Bool} {ca : Nat → ClassId} {ad : Nat → Nat} {M : Mem} {k : Nat} (h : k < cnt bl M) : (mk bl ca ad M)[k]? = some (ad k, el bl ca ad M k) := by
  unfold mk
  rw [List.getElem?_map, List.getElem?_range h]
  rfl
theorem mk_len {bl : Bool} {ca : Nat → ClassId} {ad : Nat → Nat} {M : Mem} : (mk bl ca ad M).length = cnt bl M := by
  unfold mk
  rw [List.length_map, List.length_range]
theorem mk_some {bl : Bool} {ca : Nat → ClassId} {ad : Nat → Nat} {M : Mem} {k : Nat} {q : Nat × va_E} (h : (mk bl ca ad M)[k]? = some q) : k < cnt bl M ∧ q = (ad k, el bl ca ad M k) := by
  have hl : k < cnt bl M := by
    have := (List.getElem?_eq_some_iff.mp h).1
    rw [mk_len] at this
    exact this
  rw [mk_at hl] at h
  exact ⟨hl, (Option.some.inj h).symm⟩
theorem mk_D {bl : Bool} {ca : Nat → ClassId} {ad : Nat → Nat} {M : Mem} {A : Nat → Prop} (hc : cnt bl M ≤ 337) (hi : injA ad) (hA : ∀ k, k < 337 → A (ad k)) : va_D A (mk bl ca ad M) := by
  refine ⟨fun i j p q hp hq hpq => ?_, fun k q hq => ?_⟩
  · obtain ⟨h1, rfl⟩ := mk_some hp
    obtain ⟨h2, rfl⟩ := mk_some hq
    exact hi i j (by omega) (by omega) hpq
  · obtain ⟨h1, rfl⟩ := mk_some hq
    exact hA k (by omega)
theorem el_ne {bl : Bool} {ca : Nat → ClassId} {ad : Nat → Nat} {M : Mem} {k j a : Nat} {v : Int} (h : a ≠ k) : el bl ca ad (up M k j v) a = el bl ca ad M a := by
  have e : ∀ b, up M k j v a b = M a b := fun b => by
    unfold up
    rw [if_neg (fun q => h q.1)]
  unfold el
  simp only [e]
theorem cnt_up {bl : Bool} {M : Mem} {k j : Nat} {v : Int} (h : k ≠ 337) : cnt bl (up M k j v) = cnt bl M := by
  have e : up M k j v 337 0 = M 337 0 := by
    unfold up
    rw [if_neg (fun q => h q.1.symm)]
  unfold cnt
  rw [e]
theorem mk_set {bl : Bool} {ca : Nat → ClassId} {ad : Nat → Nat} {M : Mem} {k j : Nat} {v : Int} {e : va_E} (hk : k ≠ 337) (he : el bl ca ad (up M k j v) k = e) : (mk bl ca ad M).set k (ad k, e) = mk bl ca ad (up M k j v) := by
  apply List.ext_getElem?
  intro i
  by_cases hi : i < cnt bl M
  · have hi' : i < cnt bl (up M k j v) := by rw [cnt_up hk]; exact hi
    rw [mk_at hi']
    by_cases hik : k = i
    · subst hik
      rw [List.getElem?_set_self (by rw [mk_len]; exact hi), he]
    · rw [List.getElem?_set_ne hik, mk_at hi, el_ne (fun q => hik q.symm)]
  · rw [List.getElem?_eq_none (by rw [List.length_set, mk_len]; omega), List.getElem?_eq_none (by rw [mk_len, cnt_up hk]; omega)]
theorem lvA_at {nL : Nat} {ad : Nat → Nat} {ls : Ls} {lsA : Array Slot} (h : lvA nL ad ls lsA) {i : Nat} {v : Vl} (hv : nth ls i = some (some v)) : lsA[i]? = some (.val (vv ad v)) := h.2.2.2 i v hv
/-- the known locals, as the kit lists them -/
def lsl (ad : Nat → Nat) : Nat → Ls → List (Nat × Value)
  | _, [] => []
  | n, none :: l => lsl ad (n + 1) l
  | n, some v :: l => (n, vv ad v) :: lsl ad (n + 1) l
theorem lsl_mem {ad : Nat → Nat} : ∀ {n : Nat} {l : Ls} {q : Nat × Value}, q ∈ lsl ad n l → ∃ (i : Nat) (v : Vl), nth l i = some (some v) ∧ q = (n + i, vv ad v)
  | n, [], q, h => by simp [lsl] at h
  | n, none :: l, q, h => by
    rw [lsl] at h
    obtain ⟨i, v, h1, h2⟩ := lsl_mem h
    exact ⟨i + 1, v, h1, by rw [h2]; congr 1; omega⟩
  | n, some v :: l, q, h => by
    rw [lsl] at h
    rcases List.mem_cons.mp h with h | h
    · exact ⟨0, v, rfl, h⟩
    · obtain ⟨i, w, h1, h2⟩ := lsl_mem h
      exact ⟨i + 1, w, h1, by rw [h2]; congr 1; omega⟩
theorem lsl_in {ad : Nat → Nat} : ∀ {n : Nat} {l : Ls} {i : Nat} {v : Vl}, nth l i = some (some v) → (n + i, vv ad v) ∈ lsl ad n l
  | n, [], i, v, h => by simp [nth] at h
  | n, none :: l, 0, v, h => by simp [nth] at h
  | n, none :: l, i + 1, v, h => by
    rw [lsl]
    have := lsl_in (ad := ad) (n := n + 1) (l := l) (i := i) (v := v) h
    rw [show n + 1 + i = n + (i + 1) by omega] at this
    exact this
  | n, some w :: l, 0, v, h => by
    rw [lsl]
    have : w = v := by simpa [nth] using h
    rw [this]
    exact List.mem_cons_self
  | n, some w :: l, i + 1, v, h => by
    rw [lsl]
    have := lsl_in (ad := ad) (n := n + 1) (l := l) (i := i) (v := v) h
    rw [show n + 1 + i = n + (i + 1) by omega] at this
    exact List.mem_cons_of_mem _ this
theorem lvA_has {nL : Nat} {ad : Nat → Nat} {ls : Ls} {lsA : Array Slot} (h : lvA nL ad ls lsA) : lv_has lsA nL (lsl ad 0 ls) := by
  refine ⟨h.1, h.2.1, fun q hq => ?_⟩
  obtain ⟨i, v, h1, rfl⟩ := lsl_mem hq
  rw [Nat.zero_add]
  exact h.2.2.2 i v h1
theorem half_no {ls : Ls} {i : Nat} (h : half ls i = false) {j : Nat} {v : Vl} (hj : nth ls j = some (some v)) (e : j + 1 = i) : catv v = 1 := by
  subst e
  rcases v with x | k | x | a
  · rfl
  · rfl
  · simp [half, hj] at h
  · rfl
theorem lvA_st1 {nL : Nat} {ad : Nat → Nat} {ls : Ls} {lsA : Array Slot} {i : Nat} {v : Vl} (h : lvA nL ad ls lsA) (hh : half ls i = false) (hi : i < ls.length) (hc : catv v = 1) {ls' : Array Slot}
    (h' : lv_has ls' nL ((i, vv ad v) :: (lsl ad 0 ls).filter (fun q => !(q.1 == i) && !(q.1 + 1 == i && q.2.category == 2)))) : lvA nL ad (setL ls i (some v)) ls' := by
  refine ⟨h'.1, h'.2.1, by rw [setL_len]; exact h.2.2.1, fun j w hj => ?_⟩
  by_cases hji : i = j
  · subst hji
    rw [nth_setL_eq _ _ hi] at hj
    have hvw : v = w := by simpa using hj
    subst hvw
    exact h'.2.2 _ List.mem_cons_self
  · rw [nth_setL_ne _ _ hji] at hj
    refine h'.2.2 (j, vv ad w) (List.mem_cons_of_mem _ (List.mem_filter.mpr ⟨?_, ?_⟩))
    · have := lsl_in (ad := ad) (n := 0) hj
      rw [Nat.zero_add] at this
      exact this
    · have h1 : (j == i) = false := by simpa using fun q => hji q.symm
      have h2 : (j + 1 == i && (vv ad w).category == 2) = false := by
        by_cases e : j + 1 = i
        · have := half_no hh hj e
          rw [cat_vv, this]
          simp
        · simp [e]
      simp only [h1, h2]
      rfl
theorem lvA_st2 {nL : Nat} {ad : Nat → Nat} {ls : Ls} {lsA : Array Slot} {i : Nat} {v : Vl} (h : lvA nL ad ls lsA) (hh : half ls i = false) (hi : i + 1 < ls.length) (hc : catv v = 2) {ls' : Array Slot}
    (h' : lv_has ls' nL ((i, vv ad v) :: (lsl ad 0 ls).filter (fun q => !(q.1 == i) && (!(q.1 == i + 1) && !(q.1 + 1 == i && q.2.category == 2))))) : lvA nL ad (setL (setL ls i (some v)) (i + 1) none) ls' := by
  refine ⟨h'.1, h'.2.1, by rw [setL_len, setL_len]; exact h.2.2.1, fun j w hj => ?_⟩
  by_cases hj1 : i + 1 = j
  · subst hj1
    rw [nth_setL_eq _ _ (by rw [setL_len]; exact hi)] at hj
    simp at hj
  · rw [nth_setL_ne _ _ hj1] at hj
    by_cases hji : i = j
    · subst hji
      rw [nth_setL_eq _ _ (by omega)] at hj
      have hvw : v = w := by simpa using hj
      subst hvw
      exact h'.2.2 _ List.mem_cons_self
    · rw [nth_setL_ne _ _ hji] at hj
      refine h'.2.2 (j, vv ad w) (List.mem_cons_of_mem _ (List.mem_filter.mpr ⟨?_, ?_⟩))
      · have := lsl_in (ad := ad) (n := 0) hj
        rw [Nat.zero_add] at this
        exact this
      · have h1 : (j == i) = false := by simpa using fun q => hji q.symm
        have h3 : (j == i + 1) = false := by simpa using fun q => hj1 q.symm
        have h2 : (j + 1 == i && (vv ad w).category == 2) = false := by
          by_cases e : j + 1 = i
          · have := half_no hh hj e
            rw [cat_vv, this]
            simp
          · simp [e]
        simp only [h1, h2, h3]
        rfl
