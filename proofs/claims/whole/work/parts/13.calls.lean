--BLTRUE
/-! contracts, calls, ends -/
def slen : List Nat := [6, 5, 4, 7, 6, 3, 4]
def sbyt : List (List Int32) := [[112, 101, 114, 115, 111, 110], [116, 104, 105, 110, 103], [100, 111, 111, 114], [111, 117, 116, 115, 105, 100, 101], [109, 111, 116, 105, 111, 110], [108, 97, 119], [108, 101, 110, 100]]
def SRl : List (String × Nat × String) := [(RX6, 74, "person"), (RX6, 87, "thing"), (RX6, 92, "door"), (RX6, 96, "outside"), (RX6, 98, "motion"), (RX6, 103, "law"), (RX5, 37, "lend"), (RX10, 350, "an argument is none of those that are asked for"), (RX10, 343, "no such person, thing, door or motion")]
/-- the words of the tables that stay under warmer tables -/
def FTW : List Cond := lw_tbl.filter (fun w => w.onTables && w.keepsFace)
/-- what lies outside the system's cells and is read: two statics of Throwable, one of String, the string constants; and words of the tables -/
def pcD : String := "Ljava/util/function/BiFunction;"
def EX (sx sy : Nat → Nat) (A : Nat → Prop) (U : State) (H : Heap) : Prop :=
  vx_Zq Bundle.tN "UNASSIGNED_STACK" Bundle.steD A U H ∧ vx_Zq Bundle.tN "SUPPRESSED_SENTINEL" Bundle.listD A U H ∧ va_Z "java/lang/String" "COMPACT_STRINGS" "Z" (.int 1) A U H ∧ vk_S 7 slen sbyt sx sy A U H ∧ (∀ (i : Nat) (q : String × Nat × String), SRl[i]? = some q → vk_R q.1 q.2.1 q.2.2 (sx i) U) ∧ (∀ w ∈ FTW, w.before #[] U = true) ∧ va_Zq "jdk/internal/util/Preconditions" "SIOOBE_FORMATTER" pcD A U H ∧ va_Nc "java/util/NoSuchElementException" "java/lang/IllegalArgumentException" U ∧ va_Nc "java/lang/IllegalArgumentException" "java/util/NoSuchElementException" U
theorem EX.warm {sx sy : Nat → Nat} {A : Nat → Prop} {s U : State} {H : Heap} (h : EX sx sy A s H) (hW : s.WarmedH U.vm) : EX sx sy A U H :=
  ⟨vx_Zq.moved hW.alike h.1, vx_Zq.moved hW.alike h.2.1, va_Z.moved hW.alike h.2.2.1, vk_S.moved hW.alike h.2.2.2.1, fun i q hq => vk_R.warm hW (h.2.2.2.2.1 i q hq), fun w hw => Cond.onTables_atFace hW (List.mem_filter.mp hw).2 (h.2.2.2.2.2.1 w hw), va_Zq.moved hW.alike h.2.2.2.2.2.2.1, va_Nc.moved hW.alike h.2.2.2.2.2.2.2.1, va_Nc.moved hW.alike h.2.2.2.2.2.2.2.2⟩
theorem EX.same {sx sy : Nat → Nat} {A : Nat → Prop} {s U : State} {H : Heap} (h : EX sx sy A s H) (hv : U.vm = s.vm) : EX sx sy A U H := by
  have ha : s.vm.Alike U.vm := by rw [hv]; exact Vm.Alike.refl _
  exact ⟨vx_Zq.moved ha h.1, vx_Zq.moved ha h.2.1, va_Z.moved ha h.2.2.1, vk_S.moved ha h.2.2.2.1, fun i q hq => vk_R.same hv (h.2.2.2.2.1 i q hq), fun w hw => va_tabs (Bool.and_eq_true_iff.mp (List.mem_filter.mp hw).2).1 hv.symm (h.2.2.2.2.2.1 w hw), va_Zq.moved ha h.2.2.2.2.2.2.1, va_Nc.moved ha h.2.2.2.2.2.2.2.1, va_Nc.moved ha h.2.2.2.2.2.2.2.2⟩
theorem EX.kept {sx sy : Nat → Nat} {A : Nat → Prop} {U : State} {H H1 : Heap} (h : EX sx sy A U H) (hq : ∀ a : Nat, a < H.size → ¬ A a → H1[a]? = H[a]?) : EX sx sy A U H1 :=
  ⟨vx_Zq.kept h.1 hq, vx_Zq.kept h.2.1 hq, va_Z.kept h.2.2.1 hq, vk_S.kept h.2.2.2.1 hq, h.2.2.2.2.1, h.2.2.2.2.2.1, va_Zq.kept h.2.2.2.2.2.2.1 hq, h.2.2.2.2.2.2.2⟩
def KKp (D : va_G) (ca : Nat → ClassId) (U : State) : Prop := va_K D vwCl (tys ca) U ∧ ∀ w ∈ NT, va_Nw w U
theorem nest_warm {s U : State} (hW : s.WarmedH U.vm) (h : ∀ w ∈ NT, va_Nw w s) : ∀ w ∈ NT, va_Nw w U := by
  intro w hw
  have h1 := h w hw
  have h2 := (List.mem_filter.mp hw).2
  unfold isNest at h2
  split at h2
  · exact va_Nw.warmF hW h1
  · exact va_Nw.warmM hW h1
  · cases h2
theorem nest_same {s U : State} (hv : s.vm = U.vm) (h : ∀ w ∈ NT, va_Nw w s) : ∀ w ∈ NT, va_Nw w U := by
  intro w hw
  have h1 := h w hw
  have h2 := (List.mem_filter.mp hw).2
  unfold isNest at h2
  split at h2
  · exact va_Nw.same rfl hv h1
  · exact va_Nw.same rfl hv h1
  · cases h2
def PcB (D : va_G) (ca : Nat → ClassId) (ad sx sy : Nat → Nat) (A : Nat → Prop) (sz : Nat) (M : Mem) : State → Prop := fun U => U.heap.size = sz ∧ va_P D vwCl (mk true ca ad M) U.heap ∧ KKp D ca U ∧ EX sx sy A U U.heap
def enm (n : Nat) : String := if n = 1 then "java/util/NoSuchElementException" else "java/lang/IllegalArgumentException"
def Qn (D : va_G) (ca : Nat → ClassId) (ad : Nat → Nat) (A : Nat → Prop) (post : QT) : Array Value → State → Outcome → State → Prop := fun _ st o t =>
  (∃ (r : Option Vl) (M : Mem), o = .returned (r.map (vv ad)) ∧ post (.inl r) M ∧ rng M ∧ (∀ v, r = some v → okv v) ∧ va_P D vwCl (mk true ca ad M) t.heap) ∧ va_F A st t
def Qx (D : va_G) (ca : Nat → ClassId) (ad : Nat → Nat) (A : Nat → Prop) (post : QT) : String → State → State → Prop := fun E st t =>
  (∃ (n : Nat) (M : Mem), E = enm n ∧ (n = 1 ∨ n = 2) ∧ post (.inr n) M ∧ rng M ∧ va_P D vwCl (mk true ca ad M) t.heap) ∧ va_F A st t
abbrev FN : Type := List Vl → Mem → (Option Vl → Mem → Prop) → Prop
def nf (G : FN) : FT := fun as M Q => G as M (fun r M' => Q (.inl r) M')
def Ctr (l : Launch) (y : MethodName) (b : ByteArray) (nl : Nat) (ret : Option FieldType) (fr lc mc : Nat) (F : (Nat → Nat) → FT) : Prop :=
  ∀ (D : va_G) (ca : Nat → ClassId) (ad sx sy : Nat → Nat) (A : Nat → Prop) (sz : Nat) (as : List Vl) (M : Mem) (post : QT), injA ad → (∀ k, k < 337 → A (ad k)) → (∀ q, sz ≤ q → A q) → rng M → (∀ v ∈ as, okv v) → F sx as M post →
    vx_Met l y (.code y b nl ret :: GT) { frames := fr, cells := mc, slots := 6 * mc, locals := lc } (va_Pc (as.map (vv ad)) (PcB D ca ad sx sy A sz M)) (Qn D ca ad A post) (Qx D ca ad A post) mc (6 * mc) A
theorem blind {D : va_G} {ca : Nat → ClassId} {ad sx sy : Nat → Nat} {A : Nat → Prop} {sz : Nat} {M : Mem} {av : List Value} : FrameBlind (va_Pc av (PcB D ca ad sx sy A sz M)) := by
  intro a U g mk q
  obtain ⟨q0, q1, q2, ⟨q3, q4⟩, q5⟩ := q
  exact ⟨q0, q1, q2, ⟨va_K.moved (u := U) (U := U.calling g mk a) (Vm.Alike.refl U.vm) q3, nest_same (s := U) (U := U.calling g mk a) rfl q4⟩, EX.same (s := U) (U := U.calling g mk a) q5 rfl⟩
theorem gt_good : GoodIn GT GT := fun w hw => ⟨hw, good_of_word (List.mem_filter.mp hw).2⟩
section Calls
variable {p : Program} {l : Launch} {e : Env} {R : Room} {s : State} {m : MethodId} {args : Array Value} {below : List Frame} {meth : Method} {c : Code} {cc : ByteArray} {nL : Nat} {own : String} {D : va_G} {ca : Nat → ClassId} {ad : Nat → Nat} {A : Nat → Prop} {Qf : State → Prop} {gc gs : Nat → Nat} {bl : Bool}
variable {J : JT} {Q : QT} {k : Kt} {pc nx : Nat}
variable {sx sy : Nat → Nat}
theorem popn_eq : ∀ (n : Nat) (st : St) (acc as : List Vl) (r : St), popn n st acc = some (as, r) → ∃ xs : List Vl, xs.length = n ∧ as = xs.reverse ++ acc ∧ st = xs ++ r
  | 0, st, acc, as, r, h => by
    simp only [popn, Option.some.injEq, Prod.mk.injEq] at h
    exact ⟨[], rfl, by rw [h.1]; rfl, by rw [h.2]; rfl⟩
  | n + 1, [], acc, as, r, h => by simp [popn] at h
  | n + 1, v :: st, acc, as, r, h => by
    rw [popn] at h
    obtain ⟨xs, h1, h2, h3⟩ := popn_eq n st (v :: acc) as r h
    exact ⟨v :: xs, by simp [h1], by simp [h2], by rw [h3]; rfl⟩
theorem cats_eq (ad : Nat → Nat) : ∀ st : St, ((st.map (vv ad)).map fun v => v.category).sum = cats st
  | [] => rfl
  | v :: st => by
    rw [List.map_cons, List.map_cons, List.sum_cons, cat_vv, cats_eq ad st, cats]
theorem cats_le {st : St} (h : Nat.ble (cats st) 8 = true) : 2 * (F0 m pc (#[] : Array Slot) []).monitorRoom + ((st.map (vv ad)).map fun v => v.category).sum ≤ 8 := by
  rw [cats_eq]
  have := Nat.le_of_ble_eq_true h
  show 2 * 0 + _ ≤ 8
  omega
/-- behind a call that was run: what the callee answers goes on -/
theorem s_after {mc ms mc1 ms1 : Nat} {lsA : Array Slot} {st0 : List Value} {ls : Ls} {r : St} {H : Heap} {locs : List Loc} {a : Array Value} (hlk : meth.locks = false) (hout : ∀ x ∈ c.exceptionTable.toList, covers x pc = false)
    (hA0 : ∀ q, s.heap.size ≤ q → A q) (hg : gc pc + mc1 ≤ gc (pc + 3) ∧ gs pc + ms1 ≤ gs (pc + 3)) (hmc : gc pc + mc1 ≤ mc ∧ gs pc + ms1 ≤ ms) (hS : va_S A s.heap H locs) (hor : ∀ v ∈ r, okv v) (hol : ∀ v, some v ∈ ls → okv v) (hl : lvA nL ad ls lsA)
    (hk : ∀ ls st M, k ls st M → JW p l e R s m args below meth c nL D ca ad A (vx_MQ below (Qn D ca ad A Q) (Qx D ca ad A Q) args s mc ms A) gc gs true (pc + 3) ls st M)
    (hr : vx_Run p l e R s m args below meth c H locs (gc pc) (gs pc) mc1 ms1 (F0 m pc lsA st0) (r.map (vv ad)) (Qn D ca ad A (aft Q k ls r) a) (Qx D ca ad A (aft Q k ls r)) A) :
    W p l e R s m args below meth c H locs (gc pc) (gs pc) (vx_MQ below (Qn D ca ad A Q) (Qx D ca ad A Q) args s mc ms A) (F0 m pc lsA st0) := by
  intro T hT X
  rcases hr T hT X with ⟨v, st₀, t, T', L, h0, X', hL, e1, e2, ⟨⟨o, M', hv, hp, hrg, hok, hP⟩, hF⟩, st⟩ | ⟨q, st₀, t, T', L, E, ce, h0, X', hL, e1, e2, ⟨⟨n, M', hE, hn, hp, hrg, hP⟩, hF⟩, hce, hcv, hcl, st⟩
  · obtain ⟨k1, k2, k3⟩ := vx_keep h0 e1 hS (fun _ _ h => h) (fun _ h => h) hL hF
    have hv' : v = o.map (vv ad) := Outcome.returned.inj hv
    subst hv'
    have hkk : k ls (o.toList ++ r) M' := by
      cases o with
      | none => exact hp
      | some w => exact hp
    have hst : (o.map (vv ad)).toList ++ r.map (vv ad) = (o.toList ++ r).map (vv ad) := by
      cases o <;> rfl
    obtain ⟨t2, a1, b1⟩ := hk _ _ _ hkk T'.heap (locs ++ L) lsA hrg (Nat.le_refl _) (fun z => nomatch z) (by rw [e1]; exact hP) k3 (by
      intro w hw
      rcases List.mem_append.mp hw with h | h
      · exact hok w (by cases o with | none => cases h | some z => simp at h; rw [h])
      · exact hor w h) hol hl T' rfl (stand_widen X' hg.1 hg.2)
    refine ⟨t2, st t2 ?_, b1⟩
    rw [hst]
    exact a1
  · obtain ⟨k1, k2, k3⟩ := vx_keep h0 e1 hS (fun _ _ h => h) (fun _ h => h) hL hF
    have hq : Q (.inr n) M' := hp
    obtain ⟨t2, a1, b1⟩ := vx_out (p := p) (l := l) (e := e) (R := R) (s := s) (m := m) (args := args) (below := below) (meth := meth) (c := c) (H := T'.heap) (locs := locs ++ L) (cells := gc pc + mc1) (slots := gs pc + ms1) (free := A) (ls := lsA) (rest := r.map (vv ad)) (Qc := Qn D ca ad A Q) (XC := Qx D ca ad A Q) (pc := pc) (E := E) (ce := ce) (q := q) (mc := mc) (ms := ms) hout hlk (by rw [e1]; exact hce) hcv hcl
      (fun t3 ht3 _ => ⟨⟨n, M', hE, hn, hq, hrg, by rw [ht3, e1]; exact hP⟩, k3.F ht3⟩) k3.2.2 hmc.1 hmc.2 T' rfl X'
    exact ⟨t2, st.trans a1, b1⟩
end Calls
