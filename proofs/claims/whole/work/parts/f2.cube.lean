--BLTRUE
/-! a row of grids -/
def outer3 (cA : ClassId) (N h0 w : Nat) : Nat → Cell
  | 0 => { cls := cA, slots := Array.replicate N .null, vm := .none }
  | i + 1 => (outer3 cA N h0 w i).setSlot i (.ref (h0 + 1 + i * w))
def fill3 (s : State) (c6 c5 c1 : ClassId) (N M K : Nat) (dv : Value) : Nat → State
  | 0 => s.pushCell (outer3 c6 N s.heap.size (1 + M) 0)
  | i + 1 => (Jvm.Free.Multi.fill (fill3 s c6 c5 c1 N M K dv i) c5 c1 M K dv M).setCell s.heap.size (outer3 c6 N s.heap.size (1 + M) (i + 1))
theorem outer3_arr (cA : ClassId) (N h0 w : Nat) : ∀ i, outer3 cA N h0 w i = arrV cA N (fun j => if j < i then .ref (h0 + 1 + j * w) else .null)
  | 0 => by
    show ({ cls := cA, slots := Array.replicate N .null, vm := .none } : Cell) = _
    rw [arrV_new]
    congr 1
  | i + 1 => by
    show (outer3 cA N h0 w i).setSlot i (.ref (h0 + 1 + i * w)) = _
    rw [outer3_arr cA N h0 w i, arrV_store]
    congr 1
    funext j
    unfold updV
    by_cases q : j = i
    · subst q
      rw [if_pos rfl, if_pos (by omega)]
    · rw [if_neg q]
      show (if j < i then Value.ref (h0 + 1 + j * w) else Value.null) = _
      by_cases z : j < i
      · rw [if_pos z, if_pos (by omega)]
      · rw [if_neg z, if_neg (by omega)]
theorem outer3_facts (cA : ClassId) (N h0 w : Nat) : ∀ i, (outer3 cA N h0 w i).cls = cA ∧ (outer3 cA N h0 w i).vm = .none ∧ (outer3 cA N h0 w i).slots.size = N
  | 0 => ⟨rfl, rfl, by simp [outer3]⟩
  | i + 1 => by
    obtain ⟨a, b, d⟩ := outer3_facts cA N h0 w i
    exact ⟨by simp [outer3, Cell.setSlot, a], by simp [outer3, Cell.setSlot, b], by simp [outer3, Cell.setSlot, d]⟩
theorem fill3_facts (s : State) (c6 c5 c1 : ClassId) (N M K : Nat) (dv : Value) : ∀ i, (fill3 s c6 c5 c1 N M K dv i).heap.size = s.heap.size + 1 + i * (1 + M) ∧ (fill3 s c6 c5 c1 N M K dv i).heap[s.heap.size]? = some (outer3 c6 N s.heap.size (1 + M) i) ∧
    (fill3 s c6 c5 c1 N M K dv i).vm = s.vm ∧ (fill3 s c6 c5 c1 N M K dv i).slotsUsed = s.slotsUsed + N + i * (M + M * K)
  | 0 => ⟨by simp [fill3], by simp [fill3], rfl, by simp [fill3, outer3]⟩
  | i + 1 => by
    obtain ⟨a, b, d, u⟩ := fill3_facts s c6 c5 c1 N M K dv i
    obtain ⟨fa, fb, fd, fu⟩ := Jvm.Free.Multi.fill_facts (fill3 s c6 c5 c1 N M K dv i) c5 c1 M K dv M
    have hlt : s.heap.size < (fill3 s c6 c5 c1 N M K dv i).heap.size := by rw [a]; omega
    have hb' : (Jvm.Free.Multi.fill (fill3 s c6 c5 c1 N M K dv i) c5 c1 M K dv M).heap[s.heap.size]? = some (outer3 c6 N s.heap.size (1 + M) i) := by rw [Jvm.Free.Multi.fill_old _ _ _ _ _ _ hlt]; exact b
    refine ⟨?_, State.heap_setCell_self hb', ?_, ?_⟩
    · simp [fill3, State.setCell, fa, a, Nat.succ_mul]
      omega
    · simp [fill3, fd, d]
    · simp [fill3, fu, u, Nat.succ_mul]
      omega
theorem fill3_setTop (s : State) (f : JFrame) (c6 c5 c1 : ClassId) (N M K : Nat) (dv : Value) : ∀ i, fill3 (s.setTop f) c6 c5 c1 N M K dv i = (fill3 s c6 c5 c1 N M K dv i).setTop f
  | 0 => rfl
  | i + 1 => by simp only [fill3, fill3_setTop s f c6 c5 c1 N M K dv i, State.heap_setTop, Jvm.Free.Multi.fill_setTop, State.setCell_setTop]
theorem fill3_old (s : State) (c6 c5 c1 : ClassId) (N M K : Nat) (dv : Value) {a : Addr} (ha : a < s.heap.size) : ∀ i, (fill3 s c6 c5 c1 N M K dv i).heap[a]? = s.heap[a]?
  | 0 => State.heap_pushCell_of_lt _ _ ha
  | i + 1 => by
    have f1 := (fill3_facts s c6 c5 c1 N M K dv i).1
    show ((Jvm.Free.Multi.fill (fill3 s c6 c5 c1 N M K dv i) c5 c1 M K dv M).setCell s.heap.size _).heap[a]? = _
    rw [State.heap_setCell_other (Nat.ne_of_gt ha), Jvm.Free.Multi.fill_old (a := a) _ _ _ _ _ _ (Nat.lt_of_lt_of_le ha (by rw [f1]; omega))]
    exact fill3_old s c6 c5 c1 N M K dv ha i
theorem fill3_in (s : State) (c6 c5 c1 : ClassId) (N M K : Nat) (dv : Value) {q j : Nat} (h1 : s.heap.size + 1 + j * (1 + M) ≤ q) (h2 : q < s.heap.size + 1 + (j + 1) * (1 + M)) : ∀ i, j < i → (fill3 s c6 c5 c1 N M K dv i).heap[q]? = (Jvm.Free.Multi.fill (fill3 s c6 c5 c1 N M K dv j) c5 c1 M K dv M).heap[q]?
  | 0, h => absurd h (Nat.not_lt_zero _)
  | i + 1, h => by
    have f1 := (fill3_facts s c6 c5 c1 N M K dv i).1
    have hne : s.heap.size ≠ q := by omega
    show ((Jvm.Free.Multi.fill (fill3 s c6 c5 c1 N M K dv i) c5 c1 M K dv M).setCell s.heap.size _).heap[q]? = _
    rw [State.heap_setCell_other hne]
    rcases Nat.lt_or_ge j i with hj | hj
    · have hm : (j + 1) * (1 + M) ≤ i * (1 + M) := Nat.mul_le_mul_right _ hj
      rw [Jvm.Free.Multi.fill_old (a := q) _ _ _ _ _ _ (Nat.lt_of_lt_of_le h2 (by rw [f1]; omega))]
      exact fill3_in s c6 c5 c1 N M K dv h1 h2 i hj
    · have e : j = i := by omega
      subst e
      rfl
section Cube
variable {E : CtlPost} {e : Env} {d : Bool} {acts : List Action} {s : State}
theorem wp_make3 {c c5 c1 c0 : ClassId} {k k5 k1 : Class} {t0 t1 type : FieldType} {n m r : Int32} (hk : s.vm.classes[c]? = some k) (hkind : k.kind = .array c5 t0) (href : t0.isReference = true) (hk5 : s.vm.classes[c5]? = some k5) (hkind5 : k5.kind = .array c1 t1) (href5 : t1.isReference = true)
    (hk1 : s.vm.classes[c1]? = some k1) (hkind1 : k1.kind = .array c0 type) (hn : ¬ n < 0) (hm : ¬ m < 0) (hr : ¬ r < 0)
    (hl1 : ¬ n.toNatClampNeg > e.platform.arrayLengthLimit) (hh1 : ¬ n.toNatClampNeg * componentBytes t0 > e.platform.maxHeapBytes) (hl2 : ¬ m.toNatClampNeg > e.platform.arrayLengthLimit) (hh2 : ¬ m.toNatClampNeg * componentBytes t1 > e.platform.maxHeapBytes)
    (hl3 : ¬ r.toNatClampNeg > e.platform.arrayLengthLimit) (hh3 : ¬ r.toNatClampNeg * componentBytes type > e.platform.maxHeapBytes) (hdf : fits type (defaultValue type) = true) (hdd : (defaultValue type).isDefault = true)
    (hc : s.heap.size + 1 + n.toNatClampNeg * (1 + m.toNatClampNeg) ≤ e.platform.maxCells) (hs : s.slotsUsed + n.toNatClampNeg + n.toNatClampNeg * (m.toNatClampNeg + m.toNatClampNeg * r.toNatClampNeg) ≤ e.platform.maxSlots)
    {Q : Addr → Pre} (hq : ∀ d' acts', Q s.heap.size d' acts' (fill3 s c c5 c1 n.toNatClampNeg m.toNatClampNeg r.toNatClampNeg (defaultValue type) n.toNatClampNeg)) :
    wp (multianewarray.make c [n, m, r]) Q E e d acts s := by
  have hfind : ([m, r].find? (· < 0)) = none := by simp [hm, hr]
  rw [multianewarray.make]
  simp only [wp_bind', W.ite, hn, if_false, wp_pure', W.theClass, hk, hkind, Option.some.injEq, exists_eq_left']
  refine Jvm.Free.Multi.wp_newArray hk hkind hl1 hh1 (Jvm.Free.Multi.refFits href _ (Or.inl rfl)) rfl (by omega) (by omega) ?_
  simp only [hfind]
  rw [ite_self, wp_bind', Std.Legacy.Range.forIn_eq_forIn_range']
  have hsz : ([:n.toNatClampNeg] : Std.Legacy.Range).size = n.toNatClampNeg := by simp [Std.Legacy.Range.size]
  rw [hsz]
  show wp (forIn (List.range' 0 n.toNatClampNeg 1) PUnit.unit _) _ E e d acts _
  refine wp_forIn_inv (fun rest s' => ∃ i, i ≤ n.toNatClampNeg ∧ rest = List.range' i (n.toNatClampNeg - i) ∧ s' = fill3 s c c5 c1 n.toNatClampNeg m.toNatClampNeg r.toNatClampNeg (defaultValue type) i) _ _ ⟨0, Nat.zero_le _, rfl, rfl⟩ ?_ ?_
  · rintro x rest s' d' acts' Q' ⟨i, hi, hl, rfl⟩ hnext
    have hlt : i < n.toNatClampNeg := by
      rcases Nat.lt_or_ge i n.toNatClampNeg with h | h
      · exact h
      · rw [show n.toNatClampNeg - i = 0 from by omega] at hl; simp at hl
    obtain ⟨rfl, hrest⟩ : x = i ∧ rest = List.range' (i + 1) (n.toNatClampNeg - (i + 1)) := by
      rw [show n.toNatClampNeg - i = (n.toNatClampNeg - (i + 1)) + 1 from by omega, List.range'_succ] at hl
      exact ⟨(List.cons.inj hl).1, (List.cons.inj hl).2⟩
    obtain ⟨f1, f2, f3, f4⟩ := fill3_facts s c c5 c1 n.toNatClampNeg m.toNatClampNeg r.toNatClampNeg (defaultValue type) x
    obtain ⟨o1, o2, o3⟩ := outer3_facts c n.toNatClampNeg s.heap.size (1 + m.toNatClampNeg) x
    have hmul : x * (1 + m.toNatClampNeg) + (1 + m.toNatClampNeg) ≤ n.toNatClampNeg * (1 + m.toNatClampNeg) := by
      have := Nat.mul_le_mul_right (1 + m.toNatClampNeg) (show x + 1 ≤ n.toNatClampNeg from hlt)
      rw [Nat.succ_mul] at this; exact this
    have hmul2 : x * (m.toNatClampNeg + m.toNatClampNeg * r.toNatClampNeg) + (m.toNatClampNeg + m.toNatClampNeg * r.toNatClampNeg) ≤ n.toNatClampNeg * (m.toNatClampNeg + m.toNatClampNeg * r.toNatClampNeg) := by
      have := Nat.mul_le_mul_right (m.toNatClampNeg + m.toNatClampNeg * r.toNatClampNeg) (show x + 1 ≤ n.toNatClampNeg from hlt)
      rw [Nat.succ_mul] at this; exact this
    simp only [wp_bind']
    refine Jvm.Free.Multi.wp_make2 (k := k5) (kc := k1) (comp := c1) (cc := c0) (t0 := t1) (type := type) (by rw [f3]; exact hk5) hkind5 href5 (by rw [f3]; exact hk1) hkind1 hm hr hl2 hh2 hl3 hh3 hdf hdd (by rw [f1]; omega) (by rw [f4]; omega) (fun d2 acts2 => ?_)
    have hlt0 : s.heap.size < (fill3 s c c5 c1 n.toNatClampNeg m.toNatClampNeg r.toNatClampNeg (defaultValue type) x).heap.size := by rw [f1]; omega
    have ffd := (Jvm.Free.Multi.fill_facts (fill3 s c c5 c1 n.toNatClampNeg m.toNatClampNeg r.toNatClampNeg (defaultValue type) x) c5 c1 m.toNatClampNeg r.toNatClampNeg (defaultValue type) m.toNatClampNeg).2.2.1
    simp only [wp_bind', W.writeLoc, wp_pure']
    refine ⟨outer3 c n.toNatClampNeg s.heap.size (1 + m.toNatClampNeg) x, by rw [Jvm.Free.Multi.fill_old _ _ _ _ _ _ hlt0]; exact f2, by rw [o2]; simp, by rw [o3]; exact hlt, ?_, hnext _ _ _ ⟨x + 1, hlt, hrest, ?_⟩⟩
    · rw [o1, o2]
      simp [State.fitsSlot, State.slotType?, ffd, f3, hk, hkind, Jvm.Free.Multi.refFits href _ (Or.inr ⟨_, rfl⟩)]
    · rw [f1]; rfl
  · rintro s' d' acts' ⟨i, hi, hl, rfl⟩
    have hiN : i = n.toNatClampNeg := by
      rcases Nat.lt_or_ge i n.toNatClampNeg with h | h
      · rw [show n.toNatClampNeg - i = (n.toNatClampNeg - (i + 1)) + 1 from by omega, List.range'_succ] at hl; cases hl
      · omega
    subst hiN
    simp only [wp_pure']
    exact hq _ _
end Cube
section Cube2
variable {p : Program} {l : Launch} {e : Env} {R : Room} {s : State} {m : MethodId} {args : Array Value} {below : List Frame} {meth : Method} {c : Code} {T : State} {locs : List Loc} {cells slots : Nat}
theorem filled3 (X : Stand p l e R s m args below meth c T locs cells slots) (c6 c5 c1 : ClassId) (N M K : Nat) (dv : Value) :
    ∀ i, ∃ L : List Loc, (∀ q ∈ L, T.heap.size ≤ q.base ∧ q.base < T.heap.size + 1 + i * (1 + M)) ∧ Stand p l e R s m args below meth c (fill3 T c6 c5 c1 N M K dv i) (locs ++ L) (cells + 1 + i * (1 + M)) (slots + N + i * (M + M * K))
  | 0 => by
    have h := X.pushed (outer3 c6 N T.heap.size (1 + M) 0)
    rw [(outer3_facts c6 N T.heap.size (1 + M) 0).2.2] at h
    exact ⟨[], ⟨fun q hq => (by cases hq), by simpa [fill3] using h⟩⟩
  | i + 1 => by
    obtain ⟨L, hL, Xi⟩ := filled3 X c6 c5 c1 N M K dv i
    obtain ⟨f1, f2, f3, f4⟩ := fill3_facts T c6 c5 c1 N M K dv i
    have X2 := Xi.filled c5 c1 M K dv M
    have hlt0 : T.heap.size < (fill3 T c6 c5 c1 N M K dv i).heap.size := by rw [f1]; omega
    have hcell : (Jvm.Free.Multi.fill (fill3 T c6 c5 c1 N M K dv i) c5 c1 M K dv M).heap[T.heap.size]? = some (outer3 c6 N T.heap.size (1 + M) i) := by rw [Jvm.Free.Multi.fill_old _ _ _ _ _ _ hlt0]; exact f2
    have h := X2.stored hcell i (.ref (T.heap.size + 1 + i * (1 + M)))
    refine ⟨L ++ ((List.range M).map (fun j => ⟨(fill3 T c6 c5 c1 N M K dv i).heap.size, j⟩) ++ [⟨T.heap.size, i⟩]), ?_, ?_⟩
    · intro q hq
      rw [Nat.succ_mul]
      rcases List.mem_append.mp hq with z | z
      · have := hL q z
        exact ⟨this.1, Nat.lt_of_lt_of_le this.2 (by omega)⟩
      · rcases List.mem_append.mp z with z | z
        · obtain ⟨j, -, rfl⟩ := List.mem_map.mp z
          show T.heap.size ≤ (fill3 T c6 c5 c1 N M K dv i).heap.size ∧ (fill3 T c6 c5 c1 N M K dv i).heap.size < _
          rw [f1]
          omega
        · have : q = ⟨T.heap.size, i⟩ := by simpa using z
          subst this
          show T.heap.size ≤ T.heap.size ∧ T.heap.size < _
          omega
    · rw [← List.append_assoc, ← List.append_assoc, show cells + 1 + (i + 1) * (1 + M) = cells + 1 + i * (1 + M) + 1 + M by rw [Nat.succ_mul]; omega, show slots + N + (i + 1) * (M + M * K) = slots + N + i * (M + M * K) + M + M * K by rw [Nat.succ_mul]; omega]
      exact h
theorem multi3 (X : Stand p l e R s m args below meth c T locs cells slots) (hexec : p.tables.exec = Jvm.exec) {own : String} {index : Nat} {ty : FieldType}
    (hown : s.vm.findClass own = some m.cls) (hclink : (Cond.classLink own index ("[" ++ (FieldType.array (.array ty)).toString)).before args s = true)
    (hover : (Cond.arrayOver (.array (.array ty))).before args s = true) (hover2 : (Cond.arrayOver (.array ty)).before args s = true) (harr : (Cond.arrayClass ty).before args s = true)
    {g : JFrame} (hg : g.method = m) (hdg : decode c.code g.pc = .ok (.multianewarray index 3, 4)) {n k r : Int32} {rest : List Value} (hstack : g.stack = .int r :: .int k :: .int n :: rest)
    (hn : ¬ n < 0) (hk : ¬ k < 0) (hr : ¬ r < 0) (hb1 : n.toNatClampNeg * 4 ≤ 536870912) (hb2 : k.toNatClampNeg * 4 ≤ 536870912) (hb3 : r.toNatClampNeg * componentBytes ty ≤ 536870912) (hb4 : r.toNatClampNeg ≤ 536870912)
    (hdf : fits ty (defaultValue ty) = true) (hdd : (defaultValue ty).isDefault = true)
    (hcells : cells + (1 + n.toNatClampNeg * (1 + k.toNatClampNeg)) ≤ R.cells) (hslots : slots + (n.toNatClampNeg + n.toNatClampNeg * (k.toNatClampNeg + k.toNatClampNeg * r.toNatClampNeg)) ≤ R.slots) :
    ∃ (vm₁ : Vm) (c6 c5 c1 : ClassId) (L : List Loc), s.WarmedH vm₁ ∧ s.vm.findClass ("[" ++ (FieldType.array (.array ty)).toString) = some c6 ∧ s.vm.findClass ("[" ++ (FieldType.array ty).toString) = some c5 ∧ s.vm.findClass (FieldType.array ty).toString = some c1 ∧ (∀ q ∈ L, T.heap.size ≤ q.base ∧ q.base < T.heap.size + 1 + n.toNatClampNeg * (1 + k.toNatClampNeg)) ∧
      Stand p l e R s m args below meth c (fill3 (T.setVm vm₁) c6 c5 c1 n.toNatClampNeg k.toNatClampNeg r.toNatClampNeg (defaultValue ty) n.toNatClampNeg) (locs ++ L) (cells + 1 + n.toNatClampNeg * (1 + k.toNatClampNeg)) (slots + n.toNatClampNeg + n.toNatClampNeg * (k.toNatClampNeg + k.toNatClampNeg * r.toNatClampNeg)) ∧
      ∀ target, Steps p.tables e below ((fill3 (T.setVm vm₁) c6 c5 c1 n.toNatClampNeg k.toNatClampNeg r.toNatClampNeg (defaultValue ty) n.toNatClampNeg).setTop { g with pc := g.pc + 4, stack := .ref T.heap.size :: rest }) target →
        Steps p.tables e below (T.setTop g) target := by
  subst hg
  have hpl : e.platform.magicAccessors = ({} : Platform).magicAccessors := by rw [X.admits.platform]
  obtain ⟨c5, c6, k6, hf5, hk6, hkind6, hname6⟩ := Cond.arrayOver_specA hover
  obtain ⟨c1, c5', k5, hf1, hk5, hkind5, hname5⟩ := Cond.arrayOver_specA hover2
  have e5 : c5' = c5 := Option.some.inj (hname5.symm.trans hf5)
  subst e5
  obtain ⟨c1', k1, cc, hf1', hk1, hkind1⟩ := Cond.arrayClass_spec harr
  have e1 : c1' = c1 := Option.some.inj (hf1'.symm.trans hf1)
  subst e1
  obtain ⟨c0, hfc0, hcl⟩ := Cond.classLink_spec hown hclink e.platform hpl
  cases hname6.symm.trans hfc0
  obtain ⟨hg₁, hwarm₁, hready₁⟩ := State.classEntry (e := e) X.warmed hcl
  generalize T.vm.noted g.method.cls index (.cls c6) = vm₁ at hg₁ hwarm₁ hready₁
  have hal : s.vm.Alike vm₁ := hwarm₁.alike
  obtain ⟨k6', hk6', he6⟩ := hal.2.2 _ _ hk6
  obtain ⟨k5', hk5', he5⟩ := hal.2.2 _ _ hk5
  obtain ⟨k1', hk1', he1⟩ := hal.2.2 _ _ hk1
  have hkind6' : k6'.kind = .array c5' (.array (.array ty)) := by rw [he6]; exact hkind6
  have hkind5' : k5'.kind = .array c1' (.array ty) := by rw [he5]; exact hkind5
  have hkind1' : k1'.kind = .array cc ty := by rw [he1]; exact hkind1
  have X₁ := X.noted hwarm₁
  obtain ⟨hr1, hr2⟩ := X.roomAbove hcells hslots
  obtain ⟨L, hL, XF⟩ := filled3 X₁ c6 c5' c1' n.toNatClampNeg k.toNatClampNeg r.toNatClampNeg (defaultValue ty) n.toNatClampNeg
  refine ⟨vm₁, c6, c5', c1', L, hwarm₁, hname6, hname5, hf1, hL, XF, fun target hrest => ?_⟩
  have hl1 : ¬ n.toNatClampNeg > e.platform.arrayLengthLimit := by rw [Launch.admits_arrayLengthLimit X.admits]; omega
  have hh1 : ¬ n.toNatClampNeg * componentBytes (.array (.array ty)) > e.platform.maxHeapBytes := by
    rw [Launch.admits_maxHeapBytes X.admits]; show ¬ n.toNatClampNeg * 4 > 536870912; omega
  have hl2 : ¬ k.toNatClampNeg > e.platform.arrayLengthLimit := by rw [Launch.admits_arrayLengthLimit X.admits]; omega
  have hh2 : ¬ k.toNatClampNeg * componentBytes (.array ty) > e.platform.maxHeapBytes := by
    rw [Launch.admits_maxHeapBytes X.admits]; show ¬ k.toNatClampNeg * 4 > 536870912; omega
  have hl3 : ¬ r.toNatClampNeg > e.platform.arrayLengthLimit := by rw [Launch.admits_arrayLengthLimit X.admits]; omega
  have hh3 : ¬ r.toNatClampNeg * componentBytes ty > e.platform.maxHeapBytes := by rw [Launch.admits_maxHeapBytes X.admits]; omega
  jvm_step X.here [hexec, hdg]
  simp only [multianewarray.sem, wp_bind', W.resolveClassAt_links (State.method?_setTop g X.here.top) hg₁]
  rw [W.popN, if_neg (by decide)]
  refine ⟨g, State.topJava?_setTop' (s := T.setVm vm₁) g X.here.top, [.int n, .int k, .int r], rest, rfl, hstack, ?_⟩
  simp only [List.mapM_cons, List.mapM_nil, wp_bind', wp_pure']
  refine wp_make3 (k := k6') (k5 := k5') (k1 := k1') (c5 := c5') (c1 := c1') (c0 := cc) (t0 := .array (.array ty)) (t1 := .array ty) (type := ty) hk6' hkind6' rfl hk5' hkind5' rfl hk1' hkind1' hn hk hr hl1 hh1 hl2 hh2 hl3 hh3 hdf hdd (by show T.heap.size + 1 + _ ≤ _; omega) (by show T.slotsUsed + _ + _ ≤ _; omega) (fun d' acts' => ?_)
  have eS : ((T.setTop g).setVm vm₁).setTop { g with stack := rest } = (T.setVm vm₁).setTop { g with stack := rest } := by
    show ((T.setVm vm₁).setTop g).setTop _ = _
    rw [State.setTop_setTop]
  rw [eS, fill3_setTop]
  simp only [wp_bind', W.mark, W.pushRef, State.topJava?_setTop' _ XF.here.top, Option.some.injEq, exists_eq_left', State.setTop_setTop, State.heap_setTop]
  intro acts
  simp [jvm, XF.here.top]
  exact hrest
end Cube2
