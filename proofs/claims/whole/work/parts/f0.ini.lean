--BLTRUE
/-! the start: cells as they are made -/
abbrev UL : Type := List (Nat × Nat × Int)
def um : UL → Mem
  | [] => fun _ _ => 0
  | (a, j, v) :: us => up (um us) a j v
def cnd (d : Nat) : UL → Nat
  | [] => d
  | (a, j, v) :: us => match Nat.beq a 337 && Nat.beq j 0 with
    | true => v.toNat
    | false => cnd d us
def szc (k : Nat) : Nat := match (SH k).1 with
  | 0 => NF (SH k).2.1
  | _ => (SH k).2.1
def slt : Nat → Nat
  | 0 => 0
  | n + 1 => slt n + szc n
def offs (n : Nat) (loc : UL) : Bool := loc.all (fun e => !Nat.beq e.1 n)
def lku (a j : Nat) : UL → Option Int
  | [] => none
  | (b, i, v) :: us => match Nat.beq a b && Nat.beq j i with
    | true => some v
    | false => lku a j us
def rowL (n a : Nat) : UL := (List.range a).map (fun j => (n, j, 1))
theorem slt_mono {d : Nat} : ∀ {n : Nat}, d ≤ n → slt d ≤ slt n
  | 0, h => by rw [Nat.le_zero.mp h]; exact Nat.le_refl _
  | n + 1, h => by
    rcases Nat.lt_or_ge d (n + 1) with q | q
    · exact Nat.le_trans (slt_mono (Nat.lt_succ_iff.mp q)) (Nat.le_add_right _ _)
    · rw [Nat.le_antisymm h q]; exact Nat.le_refl _
theorem slt_add {d n : Nat} (h : d ≤ n) {k : Nat} (hk : szc n = k) : slt n - slt d + k = slt (n + 1) - slt d := by
  have := slt_mono h
  rw [slt, hk]
  omega
theorem cnt_f (M : Mem) : cnt false M = (M 337 0).toNat := by
  unfold cnt
  rw [if_neg (by decide)]
theorem cnd_ne {d a j : Nat} {v : Int} {loc : UL} (h : a ≠ 337) : cnd d ((a, j, v) :: loc) = cnd d loc := by
  have : (Nat.beq a 337 && Nat.beq j 0) = false := by
    cases hb : (Nat.beq a 337 && Nat.beq j 0) with
    | false => rfl
    | true =>
      rw [Bool.and_eq_true] at hb
      exact absurd (Nat.eq_of_beq_eq_true hb.1) h
  rw [cnd, this]
theorem cnd_eq {us : UL} {d : Nat} (h : cnt false (um us) = d) : ∀ loc : UL, cnt false (um (loc ++ us)) = cnd d loc
  | [] => h
  | (a, j, v) :: loc => by
    have ih := cnd_eq h loc
    rw [cnt_f] at ih ⊢
    show (up (um (loc ++ us)) a j v 337 0).toNat = cnd d ((a, j, v) :: loc)
    unfold up
    by_cases q : 337 = a ∧ 0 = j
    · rw [if_pos q]
      obtain ⟨rfl, rfl⟩ := q
      rfl
    · rw [if_neg q]
      have : (Nat.beq a 337 && Nat.beq j 0) = false := by
        cases hb : (Nat.beq a 337 && Nat.beq j 0) with
        | false => rfl
        | true =>
          rw [Bool.and_eq_true] at hb
          exact absurd ⟨(Nat.eq_of_beq_eq_true hb.1).symm, (Nat.eq_of_beq_eq_true hb.2).symm⟩ q
      rw [cnd, this]
      exact ih
theorem um_same {n : Nat} {us : UL} : ∀ {L : UL}, (∀ e ∈ L, e.1 ≠ n) → um (L ++ us) n = um us n
  | [], _ => rfl
  | (a, i, v) :: L, h => by
    funext j
    show up (um (L ++ us)) a i v n j = _
    unfold up
    rw [if_neg (fun q => h _ List.mem_cons_self q.1.symm)]
    exact congrFun (um_same (fun e he => h e (List.mem_cons_of_mem _ he))) j
theorem um_off {n : Nat} : ∀ {us : UL}, (∀ e ∈ us, e.1 ≠ n) → ∀ j, um us n j = 0
  | [], _, _ => rfl
  | (a, i, v) :: us, h, j => by
    show up (um us) a i v n j = 0
    unfold up
    rw [if_neg (fun q => h _ List.mem_cons_self q.1.symm)]
    exact um_off (fun e he => h e (List.mem_cons_of_mem _ he)) j
theorem um_lk {a j : Nat} {v : Int} {us : UL} : ∀ {L : UL}, lku a j L = some v → um (L ++ us) a j = v
  | [], h => by cases h
  | (b, i, w) :: L, h => by
    rw [lku] at h
    show up (um (L ++ us)) b i w a j = v
    unfold up
    split at h
    · rename_i q
      rw [Bool.and_eq_true] at q
      rw [if_pos ⟨Nat.eq_of_beq_eq_true q.1, Nat.eq_of_beq_eq_true q.2⟩]
      exact Option.some.inj h
    · rename_i q
      rw [if_neg (fun z => by rw [z.1, z.2, Nat.beq_refl, Nat.beq_refl] at q; cases q)]
      exact um_lk h
theorem row_at {n a j : Nat} {us : UL} (hj : j < a) : um (rowL n a ++ us) n j = 1 := by
  unfold rowL
  have : ∀ b, j < b → um ((List.range b).map (fun j => (n, j, (1 : Int))) ++ us) n j = 1 ∧ True := by
    intro b
    induction b with
    | zero => intro h; omega
    | succ b ih =>
      intro h
      refine ⟨?_, trivial⟩
      have key : ∀ L : UL, (∃ e ∈ L, e.1 = n ∧ e.2.1 = j) → (∀ e ∈ L, e.2.2 = 1) → um (L ++ us) n j = 1 := by
        intro L
        induction L with
        | nil => rintro ⟨e, he, -⟩ _; cases he
        | cons x L ihL =>
          obtain ⟨xa, xj, xv⟩ := x
          intro hx hv
          show up (um (L ++ us)) xa xj xv n j = 1
          unfold up
          by_cases q : n = xa ∧ j = xj
          · rw [if_pos q]
            exact hv _ List.mem_cons_self
          · rw [if_neg q]
            refine ihL ?_ (fun e he => hv e (List.mem_cons_of_mem _ he))
            obtain ⟨e, he, e1, e2⟩ := hx
            rcases List.mem_cons.mp he with rfl | he
            · exact absurd ⟨e1.symm, e2.symm⟩ q
            · exact ⟨e, he, e1, e2⟩
      refine key _ ⟨(n, j, 1), List.mem_map.mpr ⟨j, List.mem_range.mpr h, rfl⟩, rfl, rfl⟩ (fun e he => ?_)
      obtain ⟨i, -, rfl⟩ := List.mem_map.mp he
      rfl
  exact (this a hj).1
theorem row_ne {n a k : Nat} (h : k ≠ n) : ∀ e ∈ rowL n a, e.1 ≠ k := by
  intro e he
  obtain ⟨i, -, rfl⟩ := List.mem_map.mp he
  exact fun q => h q.symm
def AO (t : FieldType) (U : State) : Prop := (Cond.arrayOver t).before #[] U = true
theorem AO.moved {t : FieldType} {u U : State} (h : u.vm.Alike U.vm) (q : AO t u) : AO t U := Cond.overAtom_setVm h (.arrayOver t) rfl q
def AOs (U : State) : Prop := AO (.object RX5) U ∧ AO (.object RX0) U ∧ AO (.array .int) U ∧ AO (.array (.array .int)) U
theorem AOs.moved {u U : State} (h : u.vm.Alike U.vm) (q : AOs u) : AOs U := ⟨q.1.moved h, q.2.1.moved h, q.2.2.1.moved h, q.2.2.2.moved h⟩
def UX (s : State) (ad : Nat → Nat) (us : UL) (d : Nat) : Prop := (∀ k, ad (k + 1) = ad k + 1) ∧ cnt false (um us) = d ∧ (∀ e ∈ us, e.1 < d ∨ e.1 = 337) ∧ AOs s
def JU (p : Program) (l : Launch) (e : Env) (R : Room) (s : State) (m : MethodId) (args : Array Value) (below : List Frame) (meth : Method) (c : Code) (nL : Nat) (D : va_G) (ca : Nat → ClassId) (ad : Nat → Nat) (A : Nat → Prop) (Qf : State → Prop) (us : UL) (d : Nat) (pc : Nat) (ls : Ls) (st : St) (loc : UL) : Prop :=
  ∀ (H : Heap) (locs : List Loc) (lsA : Array Slot), H.size = ad (cnd d loc) → va_P D vwCl (mk false ca ad (um (loc ++ us))) H → va_S A s.heap H locs → lvA nL ad ls lsA →
    W p l e R s m args below meth c H locs (cnd d loc - d) (slt (cnd d loc) - slt d) Qf (F0 m pc lsA (st.map (vv ad)))
section Ini
variable {p : Program} {l : Launch} {e : Env} {R : Room} {s : State} {m : MethodId} {args : Array Value} {below : List Frame} {meth : Method} {c : Code} {cc : ByteArray} {nL : Nat} {own : String} {D : va_G} {ca : Nat → ClassId} {ad : Nat → Nat} {A : Nat → Prop} {Qf : State → Prop} {gc gs : Nat → Nat} {bl : Bool}
variable {J : JT} {Q : QT} {k : Kt} {pc nx : Nat}
variable {us : UL} {d : Nat} {ls : Ls} {st : St} {loc : UL}
theorem ad_add (X0 : UX s ad us d) (n : Nat) : ∀ i, ad (n + i) = ad n + i
  | 0 => rfl
  | i + 1 => by
    show ad (n + i + 1) = _
    rw [X0.1, ad_add X0 n i]
    rfl
theorem u_cnt (X0 : UX s ad us d) : cnt false (um (loc ++ us)) = cnd d loc := cnd_eq X0.2.1 loc
theorem u_zero (X0 : UX s ad us d) {n : Nat} (hoff : offs n loc = true) (hdn : d ≤ n) (h7 : n < 337) : ∀ j, um (loc ++ us) n j = 0 := by
  refine um_off (fun e he => ?_)
  rcases List.mem_append.mp he with q | q
  · have := List.all_eq_true.mp hoff e q
    intro z
    rw [z] at this
    simp at this
  · rcases X0.2.2.1 e q with z | z
    · omega
    · omega
theorem mk_push {M : Mem} {n : Nat} {E : va_E} (hn : cnt false M = n) (h7 : n < 337) (he : el false ca ad M n = E) : mk false ca ad (up M 337 0 ((n + 1 : Nat) : Int)) = mk false ca ad M ++ [(ad n, E)] := by
  unfold mk
  have e1 : cnt false (up M 337 0 ((n + 1 : Nat) : Int)) = n + 1 := by
    rw [cnt_f, up_eq]
    rfl
  rw [e1, hn, List.range_succ, List.map_append]
  have e2 : (List.range n).map (fun k => (ad k, el false ca ad (up M 337 0 ((n + 1 : Nat) : Int)) k)) = (List.range n).map (fun k => (ad k, el false ca ad M k)) := by
    refine List.map_congr_left (fun k hk => ?_)
    have := List.mem_range.mp hk
    rw [el_ne (by omega)]
  rw [e2]
  have e3 : el false ca ad (up M 337 0 ((n + 1 : Nat) : Int)) n = E := by rw [el_ne (by omega)]; exact he
  rw [List.map_cons, List.map_nil, e3]
theorem u_alloc (X0 : UX s ad us d) {n : Nat} {E : va_E} (hn : cnd d loc = n) (h7 : n < 337) {H H1 : Heap} {locs : List Loc} (hz : H.size = ad n) (hP : va_P D vwCl (mk false ca ad (um (loc ++ us))) H) (hS : va_S A s.heap H locs) (he : el false ca ad (um (loc ++ us)) n = E) (hb : va_at D vwCl (ad n, E) H1) (z1 : H1.size = ad n + 1) (o1 : ∀ q, q < ad n → H1[q]? = H[q]?) :
    H1.size = ad (n + 1) ∧ va_P D vwCl (mk false ca ad (um (((337, 0, ((n + 1 : Nat) : Int)) :: loc) ++ us))) H1 ∧ va_S A s.heap H1 locs := by
  have hc : cnt false (um (loc ++ us)) = n := (u_cnt X0).trans hn
  have hS1 := hS.1
  refine ⟨by rw [z1, X0.1 n], ?_, ⟨by omega, fun q h1 h2 => (o1 q (by omega)).trans (hS.2.1 q h1 h2), hS.2.2⟩⟩
  show va_P D vwCl (mk false ca ad (up (um (loc ++ us)) 337 0 _)) H1
  rw [mk_push hc h7 he]
  refine (hP.kept (fun k x hx => o1 x.1 (by rw [← hz]; exact (hP k x hx).lt))).app (fun k x hx => ?_)
  have hk1 : k < 1 := (List.getElem?_eq_some_iff.mp hx).1
  rw [show k = 0 by omega] at hx
  cases hx
  exact hb
theorem u_aln (C0 : CX p s m args meth c cc nL own D ca ad A) {i : Fin 4} {a : Nat} (hd : decode cc pc = .ok (.aload_n i, 1)) (hn : nth ls i.val = some (some (vR a))) (h : JU p l e R s m args below meth c nL D ca ad A Qf us d (pc + 1) ls (vR a :: st) loc) : JU p l e R s m args below meth c nL D ca ad A Qf us d pc ls st loc := by
  intro H locs lsA hz hP hS hl
  exact lv_aload_n (x := ad a) C0.1 C0.2.1 hd rfl (lvA_at hl hn) (h H locs lsA hz hP hS hl)
theorem u_iln (C0 : CX p s m args meth c cc nL own D ca ad A) {i : Fin 4} {x : Int} (hd : decode cc pc = .ok (.iload_n i, 1)) (hn : nth ls i.val = some (some (vI x))) (h : JU p l e R s m args below meth c nL D ca ad A Qf us d (pc + 1) ls (vI x :: st) loc) : JU p l e R s m args below meth c nL D ca ad A Qf us d pc ls st loc := by
  intro H locs lsA hz hP hS hl
  exact lv_iload_n (x := Int32.ofInt x) C0.1 C0.2.1 hd rfl (lvA_at hl hn) (h H locs lsA hz hP hS hl)
theorem u_ic (C0 : CX p s m args meth c cc nL own D ca ad A) {n : Int} (hd : decode cc pc = .ok (.iconst n, 1)) (h : JU p l e R s m args below meth c nL D ca ad A Qf us d (pc + 1) ls (vI n :: st) loc) : JU p l e R s m args below meth c nL D ca ad A Qf us d pc ls st loc := by
  intro H locs lsA hz hP hS hl
  exact lv_iconst (v := Int32.ofInt n) C0.1 C0.2.1 hd rfl (h H locs lsA hz hP hS hl)
theorem u_bi (C0 : CX p s m args meth c cc nL own D ca ad A) {n : Int} (hd : decode cc pc = .ok (.bipush n, 2)) (hv : (Int8.ofInt n).toInt32 = Int32.ofInt n) (h : JU p l e R s m args below meth c nL D ca ad A Qf us d (pc + 2) ls (vI n :: st) loc) : JU p l e R s m args below meth c nL D ca ad A Qf us d pc ls st loc := by
  intro H locs lsA hz hP hS hl
  exact lv_bipush (v := Int32.ofInt n) C0.1 C0.2.1 hd hv (h H locs lsA hz hP hS hl)
theorem u_si (C0 : CX p s m args meth c cc nL own D ca ad A) {n : Int} (hd : decode cc pc = .ok (.sipush n, 3)) (hv : (Int16.ofInt n).toInt32 = Int32.ofInt n) (h : JU p l e R s m args below meth c nL D ca ad A Qf us d (pc + 3) ls (vI n :: st) loc) : JU p l e R s m args below meth c nL D ca ad A Qf us d pc ls st loc := by
  intro H locs lsA hz hP hS hl
  exact lv_sipush (v := Int32.ofInt n) C0.1 C0.2.1 hd hv (h H locs lsA hz hP hS hl)
theorem u_dup (C0 : CX p s m args meth c cc nL own D ca ad A) {a : Nat} (hd : decode cc pc = .ok (.dup, 1)) (h : JU p l e R s m args below meth c nL D ca ad A Qf us d (pc + 1) ls (vR a :: vR a :: st) loc) : JU p l e R s m args below meth c nL D ca ad A Qf us d pc ls (vR a :: st) loc := by
  intro H locs lsA hz hP hS hl
  exact lv_dup (va := .ref (ad a)) C0.1 C0.2.1 hd rfl (h H locs lsA hz hP hS hl)
theorem u_isn (C0 : CX p s m args meth c cc nL own D ca ad A) {i : Fin 4} {x : Int} (hd : decode cc pc = .ok (.istore_n i, 1)) (hh : (half ls i.val || Nat.ble ls.length i.val) = false) (h : JU p l e R s m args below meth c nL D ca ad A Qf us d (pc + 1) (setL ls i.val (some (vI x))) st loc) : JU p l e R s m args below meth c nL D ca ad A Qf us d pc ls (vI x :: st) loc := by
  intro H locs lsA hz hP hS hl
  obtain ⟨h1, h2⟩ := st_len hh
  exact lv_istore_n (x := Int32.ofInt x) C0.1 C0.2.1 hd rfl (lvA_has hl) (by rw [← hl.2.2.1]; exact h2) rfl (fun ls' hl' => h H locs ls' hz hP hS (lvA_st1 (v := .inl x) hl h1 h2 rfl hl'))
theorem u_is (C0 : CX p s m args meth c cc nL own D ca ad A) {i : Nat} {x : Int} (hd : decode cc pc = .ok (.istore i, 2)) (hh : (half ls i || Nat.ble ls.length i) = false) (h : JU p l e R s m args below meth c nL D ca ad A Qf us d (pc + 2) (setL ls i (some (vI x))) st loc) : JU p l e R s m args below meth c nL D ca ad A Qf us d pc ls (vI x :: st) loc := by
  intro H locs lsA hz hP hS hl
  obtain ⟨h1, h2⟩ := st_len hh
  exact lv_istore (x := Int32.ofInt x) C0.1 C0.2.1 hd (lvA_has hl) (by rw [← hl.2.2.1]; exact h2) rfl (fun ls' hl' => h H locs ls' hz hP hS (lvA_st1 (v := .inl x) hl h1 h2 rfl hl'))
theorem u_asn (C0 : CX p s m args meth c cc nL own D ca ad A) {i : Fin 4} {a : Nat} (hd : decode cc pc = .ok (.astore_n i, 1)) (hh : (half ls i.val || Nat.ble ls.length i.val) = false) (h : JU p l e R s m args below meth c nL D ca ad A Qf us d (pc + 1) (setL ls i.val (some (vR a))) st loc) : JU p l e R s m args below meth c nL D ca ad A Qf us d pc ls (vR a :: st) loc := by
  intro H locs lsA hz hP hS hl
  obtain ⟨h1, h2⟩ := st_len hh
  exact lv_astore_n (x := ad a) C0.1 C0.2.1 hd rfl (lvA_has hl) (by rw [← hl.2.2.1]; exact h2) rfl (fun ls' hl' => h H locs ls' hz hP hS (lvA_st1 (v := .inr (.inl a)) hl h1 h2 rfl hl'))
theorem u_inc (C0 : CX p s m args meth c cc nL own D ca ad A) {i : Nat} {n x y : Int} (hd : decode cc pc = .ok (.iinc i n, 3)) (hx : nth ls i = some (some (vI x))) (hh : (half ls i || Nat.ble ls.length i) = false) (hy : w32 (x + n) = y) (h : JU p l e R s m args below meth c nL D ca ad A Qf us d (pc + 3) (setL ls i (some (vI y))) st loc) : JU p l e R s m args below meth c nL D ca ad A Qf us d pc ls st loc := by
  intro H locs lsA hz hP hS hl
  obtain ⟨h1, h2⟩ := st_len hh
  subst hy
  have hm := lsl_in (ad := ad) (n := 0) hx
  rw [Nat.zero_add] at hm
  obtain ⟨q, hq⟩ := List.getElem?_of_mem hm
  exact lv_iinc (k := q) (x := Int32.ofInt x) (v := Int32.ofInt (w32 (x + n))) C0.1 C0.2.1 hd (lvA_has hl) hq (of_add x n) (by rw [← hl.2.2.1]; exact h2) rfl (fun ls' hl' => h H locs ls' hz hP hS (lvA_st1 (v := .inl (w32 (x + n))) hl h1 h2 rfl hl'))
theorem u_goto (C0 : CX p s m args meth c cc nL own D ca ad A) {off : Int} {tgt : Nat} (hd : decode cc pc = .ok (.goto off, 3)) (ht : (pc : Int) + off = (tgt : Int)) (h : JU p l e R s m args below meth c nL D ca ad A Qf us d tgt ls st loc) : JU p l e R s m args below meth c nL D ca ad A Qf us d pc ls st loc := by
  intro H locs lsA hz hP hS hl
  exact lv_goto C0.1 C0.2.1 hd ht (h H locs lsA hz hP hS hl)
theorem u_ge1 (C0 : CX p s m args meth c cc nL own D ca ad A) {off x y : Int} {tgt : Nat} (hd : decode cc pc = .ok (.if_icmp .ge off, 3)) (ht : (pc : Int) + off = (tgt : Int)) (ox : okI x) (oy : okI y) (hr : y ≤ x) (h : JU p l e R s m args below meth c nL D ca ad A Qf us d tgt ls st loc) : JU p l e R s m args below meth c nL D ca ad A Qf us d pc ls (vI y :: vI x :: st) loc := by
  intro H locs lsA hz hP hS hl
  exact lv_icmp_ge C0.1 C0.2.1 hd ht (fun _ => h H locs lsA hz hP hS hl) (fun q => absurd ((of_le oy ox).mpr hr) q)
theorem u_ge0 (C0 : CX p s m args meth c cc nL own D ca ad A) {off x y : Int} {tgt : Nat} (hd : decode cc pc = .ok (.if_icmp .ge off, 3)) (ht : (pc : Int) + off = (tgt : Int)) (ox : okI x) (oy : okI y) (hr : ¬ y ≤ x) (h : JU p l e R s m args below meth c nL D ca ad A Qf us d (pc + 3) ls st loc) : JU p l e R s m args below meth c nL D ca ad A Qf us d pc ls (vI y :: vI x :: st) loc := by
  intro H locs lsA hz hP hS hl
  exact lv_icmp_ge C0.1 C0.2.1 hd ht (fun q => absurd ((of_le oy ox).mp q) hr) (fun _ => h H locs lsA hz hP hS hl)
theorem u_obj (C0 : CX p s m args meth c cc nL own D ca ad A) {idx a : Nat} (hlink : Cond.methodLink own idx Lib.objectInit ∈ GT) (hinst : Cond.instanceMethod Lib.objectInit ∈ GT) (hcode : Cond.code Lib.objectInit ⟨#[0xb1]⟩ 1 none ∈ GT) (hd : decode cc pc = .ok (.invokespecial idx, 3)) (hcat : Nat.ble (cats st) 8 = true) (hR : 1 ≤ R.frames ∧ 20 ≤ R.locals) (h : JU p l e R s m args below meth c nL D ca ad A Qf us d (pc + 3) ls st loc) : JU p l e R s m args below meth c nL D ca ad A Qf us d pc ls (vR a :: st) loc := by
  intro H locs lsA hz hP hS hl
  have cl := cats_le (m := m) (pc := pc) (ad := ad) hcat
  have e0 : (F0 m pc (#[] : Array Slot) []).monitorRoom = 0 := rfl
  rw [e0] at cl
  exact W.objInit C0.1 C0.2.1 C0.2.2.2.1 (C0.2.2.2.2.1 _ hlink) (C0.2.2.2.2.1 _ hinst) (C0.2.2.2.2.1 _ hcode) (g := F0 m pc lsA (.ref (ad a) :: st.map (vv ad))) rfl (hl.1.trans C0.2.2.1.symm) rfl hd hR.1 (by show 2 * 0 + _ + 12 ≤ R.locals; omega) (h H locs lsA hz hP hS hl)
def fz (c j : Nat) : Value := if (FK c j).1 = 2 then .null else if (FK c j).1 = 3 then .null else .int 0
theorem fv_0 {k c0 j : Nat} : fv false ad k c0 j 0 = fz c0 j := by
  unfold fv fz
  by_cases h2 : (FK c0 j).1 = 2
  · rw [if_pos h2, if_pos h2, if_pos ⟨rfl, rfl⟩]
  · rw [if_neg h2, if_neg h2]
    by_cases h3 : (FK c0 j).1 = 3
    · rw [if_pos h3, if_pos h3, if_pos ⟨rfl, rfl⟩]
    · rw [if_neg h3, if_neg h3]
      rfl
theorem fv_2 {k c0 j off : Nat} {v : Int} (h : FK c0 j = (2, off)) (hv : v ≠ 0) {b : Nat} (hb : k + off = b) : fv false ad k c0 j v = vv ad (vR b) := by
  unfold fv
  rw [h, if_pos rfl, if_neg (fun q => hv q.2), hb]
  rfl
theorem fv_3 {k c0 j : Nat} {v : Int} (h : (FK c0 j).1 = 3) (hv : v ≠ 0) {b : Nat} (hb : v.toNat = b) : fv false ad k c0 j v = vv ad (vR b) := by
  unfold fv
  rw [if_neg (by omega), if_pos h, if_neg (fun q => hv q.2), hb]
  rfl
theorem fv_i0 {k c0 j : Nat} {v : Int} (h : (FK c0 j).1 < 2) : fv false ad k c0 j v = vv ad (vI v) := fv_i h
theorem u_new (C0 : CX p s m args meth c cc nL own D ca ad A) (X0 : UX s ad us d) {n c0 N idx : Nat} {C : String} {T : u_T} (ty : Nat → FieldType) (hty : ∀ k, k < N → parseFieldDescriptor (T k).2.2.1 = some (ty k)) (hcl : vwCl[c0]? = some (C, T, N)) (hin : ∀ w ∈ u_ws C T N, w ∈ GT) (hlk : Cond.classLink own idx C ∈ GT) (hins : Cond.instantiable C N ∈ GT) (hini : Cond.initialized C ∈ GT)
    (hn : cnd d loc = n) (h7 : n < 337) (hob : (SH n).1 = 0 ∧ (SH n).2.1 = c0) (hN : NF c0 = N) (hoff : offs n loc = true) (hdn : d ≤ n) (hdef : ∀ j, j < N → defaultValue (ty j) = fz c0 j) (hR : n - d + 1 ≤ R.cells ∧ slt n - slt d + N ≤ R.slots) (hd : decode cc pc = .ok (.new idx, 3))
    (h : JU p l e R s m args below meth c nL D ca ad A Qf us d (pc + 3) ls (vR n :: st) ((337, 0, ((n + 1 : Nat) : Int)) :: loc)) : JU p l e R s m args below meth c nL D ca ad A Qf us d pc ls st loc := by
  intro H locs lsA hz hP hS hl
  rw [hn] at hz ⊢
  have hts := C0.2.2.2.2.1
  have hKn := C0.2.2.2.2.2.2.1.1 c0 _ hcl
  refine W.newcK C0.1 C0.2.1 C0.2.2.2.1 (hts _ hlk) (hts _ hins) (hts _ hini) (g := F0 m pc lsA (st.map (vv ad))) rfl hd hR.1 hR.2 hKn.2.1 hz fun H1 kC hkC e1 z1 o1 => ?_
  obtain ⟨a1, a2, a3⟩ := u_alloc (D := D) (ca := ca) (H1 := H1) X0 hn h7 hz hP hS (el_ob (b := false) hob) (by
    refine ⟨_, hcl, (u_born ty hts hin hKn hkC e1 hty).to (fun j hj => ?_)⟩
    have hj' : j < NF c0 := by rw [hN]; exact hj
    show _ = ((List.range (NF c0)).map (fun j => fv false ad n c0 j (um (loc ++ us) n j))).getD j .null
    rw [List.getD_eq_getElem?_getD, fs_at hj', u_zero X0 hoff hdn h7 j, fv_0]
    exact hdef j hj) z1 o1
  have key := h H1 locs lsA a1 a2 a3 hl
  have hs : szc n = N := by
    unfold szc
    rw [hob.1, hob.2]
    exact hN
  rw [show cnd d ((337, 0, ((n + 1 : Nat) : Int)) :: loc) = n + 1 from rfl, ← slt_add hdn hs, show n + 1 - d = n - d + 1 by omega] at key
  exact key
theorem cl_nat {k : Nat} (h : k < 2147483648) : (Int32.ofInt (k : Int)).toNatClampNeg = k := by
  rw [cl_of ⟨by omega, by omega⟩]
  rfl
theorem szc_arr {n kd len : Nat} (h : (SH n).1 = kd ∧ (SH n).2.1 = len) (h0 : kd ≠ 0) : szc n = len := by
  unfold szc
  split
  · rename_i q
    exact absurd (h.1.symm.trans q) h0
  · exact h.2
theorem u_newa (C0 : CX p s m args meth c cc nL own D ca ad A) (X0 : UX s ad us d) {n kd len : Nat} {atype : ArrayType} (hra : s.vm.findClass ("[" ++ (newarray.typeOf atype).toString) = some (ca kd)) (harr : Cond.arrayClass (newarray.typeOf atype) ∈ GT) (hdf : defaultValue (newarray.typeOf atype) = .int 0) (h4 : kd < 4) (h0 : kd ≠ 0)
    (hn : cnd d loc = n) (h7 : n < 337) (hsh : (SH n).1 = kd ∧ (SH n).2.1 = len) (hlen : len < 100000) (hby : len * componentBytes (newarray.typeOf atype) ≤ 536870912) (hoff : offs n loc = true) (hdn : d ≤ n) (hR : n - d + 1 ≤ R.cells ∧ slt n - slt d + len ≤ R.slots) (hd : decode cc pc = .ok (.newarray atype, 2))
    {ln : Int} (hln : (len : Int) = ln) (h : JU p l e R s m args below meth c nL D ca ad A Qf us d (pc + 2) ls (vR n :: st) ((337, 0, ((n + 1 : Nat) : Int)) :: loc)) : JU p l e R s m args below meth c nL D ca ad A Qf us d pc ls (vI ln :: st) loc := by
  subst hln
  intro H locs lsA hz hP hS hl
  rw [hn] at hz ⊢
  refine va_newaK C0.1 C0.2.1 (C0.2.2.2.2.1 _ harr) (g := F0 m pc lsA (.int (Int32.ofInt (len : Int)) :: st.map (vv ad))) rfl hd rfl (nng_of ⟨by omega, by omega⟩ (by omega)) (cl_nat (by omega)) hby hR.1 hR.2 hz fun H1 cA e1 z1 o1 hAr hNm => ?_
  have ec : cA = ca kd := Option.some.inj (hNm.symm.trans hra)
  subst ec
  obtain ⟨a1, a2, a3⟩ := u_alloc (D := D) (ca := ca) (H1 := H1) X0 hn h7 hz hP hS (el_i (b := false) hsh.1 h0 h4) (by
    show H1[ad n]? = some (vp_cell (ca kd) _)
    rw [e1, hdf, hsh.2]
    have ef : (fun j => Int32.ofInt (um (loc ++ us) n j)) = fun _ => (0 : Int32) := by
      funext j
      rw [u_zero X0 hoff hdn h7 j]
      rfl
    rw [ef]
    rfl) z1 o1
  have key := h H1 locs lsA a1 a2 a3 hl
  rw [show cnd d ((337, 0, ((n + 1 : Nat) : Int)) :: loc) = n + 1 from rfl, ← slt_add hdn (szc_arr hsh h0), show n + 1 - d = n - d + 1 by omega] at key
  exact key
theorem u_newl (C0 : CX p s m args meth c cc nL own D ca ad A) (X0 : UX s ad us d) {n len : Nat} (harr : Cond.arrayClass .long ∈ GT)
    (hn : cnd d loc = n) (h7 : n < 337) (hsh : (SH n).1 = 4 ∧ (SH n).2.1 = len) (hlen : len < 100000) (hoff : offs n loc = true) (hdn : d ≤ n) (hR : n - d + 1 ≤ R.cells ∧ slt n - slt d + len ≤ R.slots) (hd : decode cc pc = .ok (.newarray .long, 2))
    {ln : Int} (hln : (len : Int) = ln) (h : JU p l e R s m args below meth c nL D ca ad A Qf us d (pc + 2) ls (vR n :: st) ((337, 0, ((n + 1 : Nat) : Int)) :: loc)) : JU p l e R s m args below meth c nL D ca ad A Qf us d pc ls (vI ln :: st) loc := by
  subst hln
  intro H locs lsA hz hP hS hl
  rw [hn] at hz ⊢
  refine va_newaK (atype := .long) C0.1 C0.2.1 (C0.2.2.2.2.1 _ harr) (g := F0 m pc lsA (.int (Int32.ofInt (len : Int)) :: st.map (vv ad))) rfl hd rfl (nng_of ⟨by omega, by omega⟩ (by omega)) (cl_nat (by omega)) (by show len * 8 ≤ _; omega) hR.1 hR.2 hz fun H1 cA e1 z1 o1 hAr hNm => ?_
  have ec : cA = ca 4 := Option.some.inj (hNm.symm.trans (C0.2.2.2.2.2.2.1.2 3 _ rfl).2)
  subst ec
  obtain ⟨a1, a2, a3⟩ := u_alloc (D := D) (ca := ca) (H1 := H1) X0 hn h7 hz hP hS (el_l (b := false) hsh.1) (by
    show H1[ad n]? = some (vp_cell (ca 4) _)
    rw [e1, hsh.2]
    have ef : (fun j => Int64.ofInt (um (loc ++ us) n j)) = fun _ => (0 : Int64) := by
      funext j
      rw [u_zero X0 hoff hdn h7 j]
      rfl
    rw [ef]
    rfl) z1 o1
  have key := h H1 locs lsA a1 a2 a3 hl
  rw [show cnd d ((337, 0, ((n + 1 : Nat) : Int)) :: loc) = n + 1 from rfl, ← slt_add hdn (szc_arr hsh (by decide)), show n + 1 - d = n - d + 1 by omega] at key
  exact key
theorem el_af {M : Mem} {kd a : Nat} (h : (SH a).1 = kd) (h4 : 4 < kd) : el false ca ad M a = .inl (ca kd, (SH a).2.1, .inr (.inr (.inr (.inr (fun j => if M a j = 0 then none else some (ad ((SH a).2.2.1 + (SH a).2.2.2 * j))))))) := by
  unfold el
  rw [h, if_neg (by omega), if_neg (by omega), if_neg (by omega)]
  congr 7
  funext j
  by_cases q : M a j = 0
  · rw [if_pos q, if_pos ⟨rfl, q⟩]
  · rw [if_neg q, if_neg (fun z => q z.2)]
theorem u_anew (C0 : CX p s m args meth c cc nL own D ca ad A) (X0 : UX s ad us d) {n kd len idx : Nat} {C : String} (hAO : AO (.object C) s) (ht : (tys ca)[kd - 1]? = some (ca kd, .object C)) (hlk : Cond.classLink own idx C ∈ GT) (h4 : 4 < kd)
    (hn : cnd d loc = n) (h7 : n < 337) (hsh : (SH n).1 = kd ∧ (SH n).2.1 = len) (hlen : len < 100000) (hoff : offs n loc = true) (hdn : d ≤ n) (hR : n - d + 1 ≤ R.cells ∧ slt n - slt d + len ≤ R.slots) (hd : decode cc pc = .ok (.anewarray idx, 3))
    {ln : Int} (hln : (len : Int) = ln) (h : JU p l e R s m args below meth c nL D ca ad A Qf us d (pc + 3) ls (vR n :: st) ((337, 0, ((n + 1 : Nat) : Int)) :: loc)) : JU p l e R s m args below meth c nL D ca ad A Qf us d pc ls (vI ln :: st) loc := by
  subst hln
  intro H locs lsA hz hP hS hl
  rw [hn] at hz ⊢
  have ek : (Int32.ofInt (len : Int)).toNatClampNeg = len := cl_nat (by omega)
  refine W.anew C0.1 C0.2.1 C0.2.2.2.1 (C0.2.2.2.2.1 _ hlk) hAO (g := F0 m pc lsA (.int (Int32.ofInt (len : Int)) :: st.map (vv ad))) rfl hd rfl (nng_of ⟨by omega, by omega⟩ (by omega)) (by rw [ek]; omega) hR.1 (by rw [ek]; exact hR.2) fun cA kA comp f1 f2 f3 f4 => ?_
  rw [ek]
  obtain ⟨kA2, comp2, g1, g2, g3, g4⟩ := (C0.2.2.2.2.2.2.1.2 _ _ ht).2
  have ec : cA = ca kd := Option.some.inj (f1.symm.trans g4)
  subst ec
  obtain ⟨a1, a2, a3⟩ := u_alloc (D := D) (ca := ca) (H1 := H.push { cls := ca kd, slots := Array.replicate len .null, vm := .none }) X0 hn h7 hz hP hS (el_af hsh.1 h4) (by
    show (H.push _)[ad n]? = some (vp_cell (ca kd) _)
    rw [← hz, Array.getElem?_push_size, arrV_new, hsh.2]
    have ef : (fun j => if um (loc ++ us) n j = 0 then none else some (ad ((SH n).2.2.1 + (SH n).2.2.2 * j))) = fun _ => (none : Option Nat) := by
      funext j
      rw [if_pos (u_zero X0 hoff hdn h7 j)]
    rw [ef]
    rfl) (by rw [Array.size_push, hz]) (fun q hq => by rw [Array.getElem?_push, if_neg (by omega)])
  have key := h _ locs lsA a1 a2 a3 hl
  rw [show cnd d ((337, 0, ((n + 1 : Nat) : Int)) :: loc) = n + 1 from rfl, ← slt_add hdn (szc_arr hsh (by omega)), show n + 1 - d = n - d + 1 by omega] at key
  rw [hz]
  exact key
theorem mk_obF (X0 : UX s ad us d) {a c0 : Nat} (hob : (SH a).1 = 0 ∧ (SH a).2.1 = c0) (hac : a < cnd d loc) : (mk false ca ad (um (loc ++ us)))[a]? = some (ad a, .inr (c0, (List.range (NF c0)).map (fun i => fv false ad a c0 i (um (loc ++ us) a i)))) := by
  rw [mk_at (by rw [u_cnt X0]; exact hac), el_ob hob]
theorem el_obF {M : Mem} {a c0 j : Nat} {v : Int} (h : OB a c0) : el false ca ad (up M a j v) a = .inr (c0, ((List.range (NF c0)).map (fun i => fv false ad a c0 i (M a i))).set j (fv false ad a c0 j v)) := by
  rw [el_ob h, fs_set (g := fun i => fv false ad a c0 i (up M a j v a i))]
  · rw [up_eq]
  · intro i hi
    rw [up_ne (fun q => hi q.2)]
theorem u_pF (C0 : CX p s m args meth c cc nL own D ca ad A) (X0 : UX s ad us d) (hin2 : meth.name = "<init>") {a c0 j idx N : Nat} {v : Int} {w : Vl} {C : String} {T : u_T} {ty0 : Nat → FieldType} (hcl : vwCl[c0]? = some (C, T, N)) (hin : ∀ w ∈ u_ws C T N, w ∈ GT) (hty : ∀ k, k < N → parseFieldDescriptor (T k).2.2.1 = some (ty0 k)) (hnm : ∀ a, a < N → ∀ b, b < N → a ≠ b → (T a).2.1 ≠ (T b).2.1) (hj : j < N) (hN : NF c0 = N)
    (hob : (SH a).1 = 0 ∧ (SH a).2.1 = c0) (hac : a < cnd d loc) (hc7 : cnd d loc ≤ 337) (hw : Cond.fieldLink own idx (T j).1 (T j).2.1 (T j).2.2.1 ∈ GT) (hfin : (T j).2.2.2 = true) (hdecl : (T j).1 = own) (hv : fv false ad a c0 j v = vv ad w) (hn : narrow (ty0 j) (vv ad w) = vv ad w) (hft : fits (ty0 j) (vv ad w) = true) (hd : decode cc pc = .ok (.putfield idx, 3))
    (h : JU p l e R s m args below meth c nL D ca ad A Qf us d (pc + 3) ls st ((a, j, v) :: loc)) : JU p l e R s m args below meth c nL D ca ad A Qf us d pc ls (w :: vR a :: st) loc := by
  intro H locs lsA hz hP hS hl
  have hK := C0.2.2.2.2.2.2.1
  have hts := C0.2.2.2.2.1
  have hD : va_D A (mk false ca ad (um (loc ++ us))) := mk_D (by rw [u_cnt X0]; exact hc7) C0.2.2.2.2.2.2.2.1 C0.2.2.2.2.2.2.2.2.1
  have he := mk_obF (ca := ca) X0 hob hac
  have hap := va_apart (own := own) hts hin ty0 hty hnm hK hcl
  obtain ⟨r, h1, cell, q1, q2, q3, q4⟩ := hP a _ he
  have hr : r = (C, T, N) := Option.some.inj (h1.symm.trans hcl)
  subst hr
  obtain ⟨hSl, hfc, kC, hkC, hkind⟩ := hK.1 c0 _ hcl
  obtain ⟨cf, kf, fi, f, hi, hsl⟩ := hSl j hj
  have hlay := hts _ (hin _ (u_in_lay hj))
  unfold u_lay at hlay
  rw [if_pos hfin] at hlay
  have hst := (u_facts hfc hkC (u_lays hts hin hj) hi).1
  have hcf : m.cls = cf := by
    obtain ⟨_, _, c', _, _, _, -, -, hf', -, -, -, hown2, -⟩ := Cond.laysFinal_spec hlay
    have e1 : c' = cf := by have := hi.symm.trans hf'; simp at this; exact this.1.symm
    rw [hdecl] at hown2
    rw [← e1]; exact Option.some.inj (C0.2.2.2.1.symm.trans hown2)
  have h6 := u_fits hfc hkC hkind (Or.inr hlay) hi (hty j hj) hn hft
  have hlen : j < ((List.range (NF c0)).map (fun i => fv false ad a c0 i (um (loc ++ us) a i))).length := by rw [List.length_map, List.length_range, hN]; exact hj
  refine W.putFinK C0.1 C0.2.1 C0.2.2.2.1 (hts _ hw) hi hst hcf hin2 (v := vv ad w) (by rw [q2]; exact h6) q1 q3 (by rw [hsl]; exact k2_hasslot (q4 j hj)) (g := F0 m pc lsA (vv ad w :: .ref (ad a) :: st.map (vv ad))) rfl rfl hd fun H' e1 e2 e3 => ?_
  rw [hsl] at e1 ⊢
  have hP1 := hP.set hD he (e := .inr (c0, ((List.range (NF c0)).map (fun i => fv false ad a c0 i (um (loc ++ us) a i))).set j (vv ad w))) ⟨_, hcl, t_OB.to (V := updV (vp_V ((List.range (NF c0)).map (fun i => fv false ad a c0 i (um (loc ++ us) a i)))) j (vv ad w)) ⟨_, e1, q2, q3, t_set q4 hap hj (vv ad w)⟩ (fun i _ => vp_updV_set hlen (vv ad w) i)⟩ e3
  have ha7 : a ≠ 337 := by omega
  rw [mk_set (v := v) (j := j) ha7 (by rw [el_obF hob, hv])] at hP1
  have key := h H' (locs ++ [⟨ad a, D.2 c0 j⟩]) lsA (by rw [e2, hz, cnd_ne ha7]) hP1 (hS.put e2 e3 (hD.2 a _ he)) hl
  rw [cnd_ne ha7] at key
  exact key
theorem u_p (C0 : CX p s m args meth c cc nL own D ca ad A) (X0 : UX s ad us d) {a c0 j idx N : Nat} {v : Int} {w : Vl} {C : String} {T : u_T} {ty0 : Nat → FieldType} (hcl : vwCl[c0]? = some (C, T, N)) (hin : ∀ w ∈ u_ws C T N, w ∈ GT) (hty : ∀ k, k < N → parseFieldDescriptor (T k).2.2.1 = some (ty0 k)) (hnm : ∀ a, a < N → ∀ b, b < N → a ≠ b → (T a).2.1 ≠ (T b).2.1) (hj : j < N) (hN : NF c0 = N)
    (hob : (SH a).1 = 0 ∧ (SH a).2.1 = c0) (hac : a < cnd d loc) (hc7 : cnd d loc ≤ 337) (hw : Cond.fieldLink own idx (T j).1 (T j).2.1 (T j).2.2.1 ∈ GT) (hfin : (T j).2.2.2 = false) (hv : fv false ad a c0 j v = vv ad w) (hn : narrow (ty0 j) (vv ad w) = vv ad w) (hft : fits (ty0 j) (vv ad w) = true) (hd : decode cc pc = .ok (.putfield idx, 3))
    (h : JU p l e R s m args below meth c nL D ca ad A Qf us d (pc + 3) ls st ((a, j, v) :: loc)) : JU p l e R s m args below meth c nL D ca ad A Qf us d pc ls (w :: vR a :: st) loc := by
  intro H locs lsA hz hP hS hl
  have hK := C0.2.2.2.2.2.2.1
  have hts := C0.2.2.2.2.1
  have hD : va_D A (mk false ca ad (um (loc ++ us))) := mk_D (by rw [u_cnt X0]; exact hc7) C0.2.2.2.2.2.2.2.1 C0.2.2.2.2.2.2.2.2.1
  have he := mk_obF (ca := ca) X0 hob hac
  have hap := va_apart (own := own) hts hin ty0 hty hnm hK hcl
  obtain ⟨r, h1, cell, q1, q2, q3, q4⟩ := hP a _ he
  have hr : r = (C, T, N) := Option.some.inj (h1.symm.trans hcl)
  subst hr
  obtain ⟨hSl, hfc, kC, hkC, hkind⟩ := hK.1 c0 _ hcl
  obtain ⟨cf, kf, fi, f, hi, hsl⟩ := hSl j hj
  have hlay := hts _ (hin _ (u_in_lay hj))
  unfold u_lay at hlay
  rw [if_neg (by rw [hfin]; decide)] at hlay
  have hst := (u_facts hfc hkC (u_lays hts hin hj) hi).1
  have h6 := u_store hfc hkC hkind hlay hi (hty j hj) hn hft
  have hlen : j < ((List.range (NF c0)).map (fun i => fv false ad a c0 i (um (loc ++ us) a i))).length := by rw [List.length_map, List.length_range, hN]; exact hj
  refine W.putK C0.1 C0.2.1 (f := f) ⟨C0.2.2.2.1, hts _ hw, ⟨_, _, _, hi⟩, hst⟩ (v := vv ad w) (by rw [q2]; exact h6) q1 q3 (by rw [hsl]; exact k2_hasslot (q4 j hj)) (g := F0 m pc lsA (vv ad w :: .ref (ad a) :: st.map (vv ad))) rfl rfl hd fun H' e1 e2 e3 => ?_
  rw [hsl] at e1 ⊢
  have hP1 := hP.set hD he (e := .inr (c0, ((List.range (NF c0)).map (fun i => fv false ad a c0 i (um (loc ++ us) a i))).set j (vv ad w))) ⟨_, hcl, t_OB.to (V := updV (vp_V ((List.range (NF c0)).map (fun i => fv false ad a c0 i (um (loc ++ us) a i)))) j (vv ad w)) ⟨_, e1, q2, q3, t_set q4 hap hj (vv ad w)⟩ (fun i _ => vp_updV_set hlen (vv ad w) i)⟩ e3
  have ha7 : a ≠ 337 := by omega
  rw [mk_set (v := v) (j := j) ha7 (by rw [el_obF hob, hv])] at hP1
  have key := h H' (locs ++ [⟨ad a, D.2 c0 j⟩]) lsA (by rw [e2, hz, cnd_ne ha7]) hP1 (hS.put e2 e3 (hD.2 a _ he)) hl
  rw [cnd_ne ha7] at key
  exact key
theorem u_g (C0 : CX p s m args meth c cc nL own D ca ad A) (X0 : UX s ad us d) {a b c0 j idx N : Nat} {v : Int} {C : String} {T : u_T} (hcl : vwCl[c0]? = some (C, T, N)) (hin : ∀ w ∈ u_ws C T N, w ∈ GT) (hj : j < N) (hN : NF c0 = N)
    (hob : (SH a).1 = 0 ∧ (SH a).2.1 = c0) (hac : a < cnd d loc) (hw : Cond.fieldLink own idx (T j).1 (T j).2.1 (T j).2.2.1 ∈ GT) (hk : lku a j loc = some v) (hv : fv false ad a c0 j v = vv ad (vR b)) (hd : decode cc pc = .ok (.getfield idx, 3))
    (h : JU p l e R s m args below meth c nL D ca ad A Qf us d (pc + 3) ls (vR b :: st) loc) : JU p l e R s m args below meth c nL D ca ad A Qf us d pc ls (vR a :: st) loc := by
  intro H locs lsA hz hP hS hl
  refine va_get C0.1 C0.2.1 C0.2.2.2.2.1 hin C0.2.2.2.1 C0.2.2.2.2.2.2.1 hP a (mk_obF X0 hob hac) hcl j hj (C0.2.2.2.2.1 _ hw) (fun _ q => q) (v := .ref (ad b)) ?_ hd (h H locs lsA hz hP hS hl)
  rw [fs_at (by rw [hN]; exact hj), um_lk hk, hv]
  rfl
theorem u_aax (C0 : CX p s m args meth c cc nL own D ca ad A) (X0 : UX s ad us d) {a b c0 kd i : Nat} {C : String} {T : u_T} {N : Nat} (hcl : vwCl[c0]? = some (C, T, N)) (ht : (tys ca)[kd - 1]? = some (ca kd, .object C)) (h4 : 4 < kd) (hsh : (SH a).1 = kd) (hi : i < (SH a).2.1) (hi9 : i < 1000) (hob : (SH b).1 = 0 ∧ (SH b).2.1 = c0) (hb : (SH a).2.2.1 + (SH a).2.2.2 * i = b) (hac : a < cnd d loc) (hbc : b < cnd d loc) (hc7 : cnd d loc ≤ 337) (hd : decode cc pc = .ok (.aastore, 1))
    {iv : Int} (hiv : (i : Int) = iv) (h : JU p l e R s m args below meth c nL D ca ad A Qf us d (pc + 1) ls st ((a, i, 1) :: loc)) : JU p l e R s m args below meth c nL D ca ad A Qf us d pc ls (vR b :: vI iv :: vR a :: st) loc := by
  subst hiv
  intro H locs lsA hz hP hS hl
  have hK := C0.2.2.2.2.2.2.1
  have hD : va_D A (mk false ca ad (um (loc ++ us))) := mk_D (by rw [u_cnt X0]; exact hc7) C0.2.2.2.2.2.2.2.1 C0.2.2.2.2.2.2.2.2.1
  have hea : (mk false ca ad (um (loc ++ us)))[a]? = some (ad a, .inl (ca kd, (SH a).2.1, .inr (.inr (.inr (.inr (fun j => if um (loc ++ us) a j = 0 then none else some (ad ((SH a).2.2.1 + (SH a).2.2.2 * j)))))))) := by rw [mk_at (by rw [u_cnt X0]; exact hac), el_af hsh h4]
  have hei := cl_nat (k := i) (by omega)
  obtain ⟨r', hr', cellV, g1, g2, g3, -⟩ := hP b _ (mk_obF (ca := ca) X0 hob hbc)
  have hcls := (hK.1 c0 _ hcl).2
  obtain ⟨kA, comp, k1, k2, k3, -⟩ := (hK.2 _ _ ht).2
  have hcomp : comp = D.1 c0 := Option.some.inj (k3.symm.trans hcls.1)
  subst hcomp
  obtain ⟨kC, hkC, -⟩ := hcls.2
  refine W.aast C0.1 C0.2.1 (hP a _ hea) (fun q h => by cases h) (fun h => by cases h) k1 k2 rfl hkC ⟨nng_of ⟨by omega, by omega⟩ (by omega), by show _ < (arrV _ _ _).slots.size; rw [arrV_size, hei]; exact hi⟩ g1 (fun q h => by rw [g3] at h; cases h) (by rw [g2]; exact hkC) (by rw [g2]; exact va_assign hcls) (g := F0 m pc lsA (.ref (ad b) :: .int (Int32.ofInt (i : Int)) :: .ref (ad a) :: st.map (vv ad))) rfl rfl hd fun H1 e z oq => ?_
  have ha7 : a ≠ 337 := by omega
  have hP1 := hP.set hD hea (e := el false ca ad (up (um (loc ++ us)) a i 1) a) (by
    rw [el_af hsh h4]
    show H1[ad a]? = some (vp_cell _ _)
    rw [e, hei]
    show some ((vp_cell _ _).setSlot i (.ref (ad b))) = _
    rw [vp_cell_q, vp_cell_q, arrV_store]
    congr 2
    funext q
    by_cases hq : q = i
    · subst hq
      simp [updV, va_rf, up_eq, hb]
    · have e9 : up (um (loc ++ us)) a i 1 a q = um (loc ++ us) a q := up_ne (fun z => hq z.2)
      simp [updV, hq, e9]) oq
  rw [mk_set (v := 1) (j := i) ha7 rfl] at hP1
  rw [hei]
  have key := h H1 (locs ++ [⟨ad a, i⟩]) lsA (by rw [z, hz, cnd_ne ha7]) hP1 (hS.put z oq (hD.2 a _ hea)) hl
  rw [cnd_ne ha7] at key
  exact key
/-- a constructor's contract, at a place -/
def PcI (D : va_G) (ca : Nat → ClassId) (ad : Nat → Nat) (us : UL) (k : Nat) : State → Prop := fun U => U.heap.size = ad (k + 1) ∧ va_P D vwCl (mk false ca ad (um us)) U.heap ∧ KKp D ca U ∧ AOs U
def Qi (D : va_G) (ca : Nat → ClassId) (ad : Nat → Nat) (A : Nat → Prop) (L : UL) (e : Nat) : Array Value → State → Outcome → State → Prop := fun _ st o t => (o = .returned none ∧ t.heap.size = ad e ∧ va_P D vwCl (mk false ca ad (um L)) t.heap) ∧ va_F A st t
def CI (l : Launch) (y : MethodName) (b : ByteArray) (nl fr lc k e : Nat) (us1 : UL) : Prop :=
  ∀ (D : va_G) (ca : Nat → ClassId) (ad : Nat → Nat) (A : Nat → Prop) (us : UL), (∀ k, ad (k + 1) = ad k + 1) → injA ad → (∀ k, k < 337 → A (ad k)) → (∀ q, ad (k + 1) ≤ q → A q) → cnt false (um us) = k + 1 → (∀ x ∈ us, x.1 < k + 1 ∨ x.1 = 337) →
    Met l y (.code y b nl none :: GT) { frames := fr, cells := e - (k + 1), slots := slt e - slt (k + 1), locals := lc } (va_Pc [.ref (ad k)] (PcI D ca ad us k)) (Qi D ca ad A (us1 ++ us) e) (e - (k + 1)) (slt e - slt (k + 1)) A
theorem blindI {av : List Value} {k : Nat} : FrameBlind (va_Pc av (PcI D ca ad us k)) := by
  intro a U g mk q
  obtain ⟨q0, q1, q2, ⟨q3, q4⟩, q5⟩ := q
  exact ⟨q0, q1, q2, ⟨va_K.moved (u := U) (U := U.calling g mk a) (Vm.Alike.refl U.vm) q3, nest_same (s := U) (U := U.calling g mk a) rfl q4⟩, AOs.moved (u := U) (U := U.calling g mk a) (Vm.Alike.refl U.vm) q5⟩
variable {y : MethodName} {b : ByteArray} {nl fr lc idx k e0 : Nat} {us1 : UL}
theorem ci_of (hy : plainName y.cls = true) (hyn : y.name = "<init>") (hnl : 1 ≤ nl)
    (body : ∀ (p : Program) (e : Env) (s : State) (m : MethodId) (args : Array Value) (below : List Frame) (meth : Method) (c : Code) (D : va_G) (ca : Nat → ClassId) (ad : Nat → Nat) (A : Nat → Prop) (us : UL), CX p s m args meth c b nl y.cls D ca ad A → UX s ad us (k + 1) → meth.name = "<init>" → meth.sig.returnType = none →
      JU p l e { frames := fr, cells := e0 - (k + 1), slots := slt e0 - slt (k + 1), locals := lc } s m args below meth c nl D ca ad A (MQ below (Qi D ca ad A (us1 ++ us) e0) args s (e0 - (k + 1)) (slt e0 - slt (k + 1)) A) us (k + 1) 0 (padL nl [some (vR k)]) [] []) : CI l y b nl fr lc k e0 us1 := by
  intro D ca ad A us hsu hinj hA hsz hcu hus
  refine Met.ofW (cc := b) (maxL := nl) (ret := none) hy rfl ?_
  intro p e s m args below meth c s₁ B hml hv
  obtain ⟨rfl, hz, hP, ⟨hK, hN⟩, hO⟩ := hv
  have hts := atoms_spec (ws := Cond.code y b nl none :: GT) B.pre
  have C0 : CX p s m (([.ref (ad k)] : List Value).toArray) meth c b nl y.cls D ca ad A := ⟨B.exec, B.bytes, hml, findClass_of_methodNamed B.named, fun w hw => hts w (List.mem_cons_of_mem _ hw), hN, hK, hinj, hA, fun q hq => hsz q (by omega), B.notSynchronized⟩
  have hJ := body p e s m _ below meth c D ca ad A us C0 ⟨hsu, hcu, hus, hO⟩ ((name_of_methodNamed B.named B.method).1.trans hyn) B.returns
  have hlv := entry_lvA (ad := ad) (as := [vR k]) (nl := nl) hnl
  rw [lg_entry_eq]
  have key := hJ s.heap [] _ hz hP va_S.rf hlv
  rw [show cnd (k + 1) ([] : UL) = k + 1 from rfl, Nat.sub_self, Nat.sub_self] at key
  exact key
theorem u_ret (C0 : CX p s m args meth c cc nL own D ca ad A) (X0 : UX s ad us d) (hr : meth.sig.returnType = none) {e1 : Nat} (hcn : cnd d loc = e1) (hd : decode cc pc = .ok (.return_, 1)) : JU p l e R s m args below meth c nL D ca ad A (MQ below (Qi D ca ad A (loc ++ us) e1) args s (e1 - d) (slt e1 - slt d) A) us d pc ls [] loc := by
  intro H locs lsA hz hP hS hl
  rw [hcn] at hz ⊢
  exact W.vret C0.1 C0.2.1 hr (fun t ht _ => ⟨⟨rfl, by rw [ht]; exact hz, by rw [ht]; exact hP⟩, hS.F ht⟩) hS.2.2 hd C0.2.2.2.2.2.2.2.2.2.2
theorem all_lt {L : UL} {n : Nat} (h : L.all (fun e => Nat.blt e.1 n || Nat.beq e.1 337) = true) : ∀ e ∈ L, e.1 < n ∨ e.1 = 337 := by
  intro e he
  have := List.all_eq_true.mp h e he
  rw [Bool.or_eq_true] at this
  rcases this with q | q
  · exact Or.inl (Nat.le_of_ble_eq_true q)
  · exact Or.inr (Nat.eq_of_beq_eq_true q)
theorem u_back (C0 : CX p s m args meth c cc nL own D ca ad A) (X0 : UX s ad us d) (hn : cnd d loc = k + 1) (hdk : d ≤ k + 1) (hke : k + 1 ≤ e0) (hcn : cnd d (us1 ++ loc) = e0) {H : Heap} {locs : List Loc} {lsA : Array Slot} {g : JFrame} (hg : g = F0 m pc lsA (.ref (ad k) :: st.map (vv ad))) (hS : va_S A s.heap H locs) (hl : lvA nL ad ls lsA)
    (hr : va_Run p l e R s m args below meth c H locs (k + 1 - d) (slt (k + 1) - slt d) (e0 - (k + 1)) (slt e0 - slt (k + 1)) g (st.map (vv ad)) (Qi D ca ad A (us1 ++ (loc ++ us)) e0 (([.ref (ad k)] : List Value).toArray)) A)
    (h : JU p l e R s m args below meth c nL D ca ad A Qf us d (pc + 3) ls st (us1 ++ loc)) : W p l e R s m args below meth c H locs (k + 1 - d) (slt (k + 1) - slt d) Qf g := by
  subst hg
  intro T hT X
  obtain ⟨v, st₀, t, T', L, h0, X', hL, e1, e2, ⟨⟨hv, hz1, hP1⟩, hF⟩, stp⟩ := hr T hT X
  cases hv
  obtain ⟨k1, k2, k3⟩ := vx_keep h0 e1 hS (fun _ _ h => h) (fun _ h => h) hL hF
  have key := h T'.heap (locs ++ L) lsA (by rw [e1, hcn]; exact hz1) (by rw [e1, List.append_assoc]; exact hP1) k3 hl
  rw [hcn] at key
  have m1 := slt_mono hdk
  have m2 := slt_mono hke
  obtain ⟨t2, a1, b1⟩ := key T' rfl (by rw [show e0 - d = k + 1 - d + (e0 - (k + 1)) by omega, show slt e0 - slt d = slt (k + 1) - slt d + (slt e0 - slt (k + 1)) by omega]; exact X')
  exact ⟨t2, stp t2 a1, b1⟩
theorem u_pre (C0 : CX p s m args meth c cc nL own D ca ad A) (X0 : UX s ad us d) (hn : cnd d loc = k + 1) {H : Heap} {locs : List Loc} (hz : H.size = ad (cnd d loc)) (hP : va_P D vwCl (mk false ca ad (um (loc ++ us))) H) : ∀ U : State, U.heap = H → s.WarmedH U.vm → va_Pc [.ref (ad k)] (PcI D ca ad (loc ++ us) k) ([.ref (ad k)] : List Value).toArray U := by
  intro U hU hW
  refine ⟨rfl, by rw [hU, hz, hn], by rw [hU]; exact hP, ⟨va_K.moved hW.alike C0.2.2.2.2.2.2.1, nest_warm hW C0.2.2.2.2.2.1⟩, X0.2.2.2.moved hW.alike⟩
theorem u_met (C0 : CX p s m args meth c cc nL own D ca ad A) (X0 : UX s ad us d) (hCI : CI l y b nl fr lc k e0 us1) (hn : cnd d loc = k + 1) (hdk : d ≤ k + 1) (hall : loc.all (fun e => Nat.blt e.1 (k + 1) || Nat.beq e.1 337) = true) {H : Heap} {locs : List Loc} (hz : H.size = ad (cnd d loc)) (hS : va_S A s.heap H locs) :
    Met l y (.code y b nl none :: GT) { frames := fr, cells := e0 - (k + 1), slots := slt e0 - slt (k + 1), locals := lc } (va_Pc [.ref (ad k)] (PcI D ca ad (loc ++ us) k)) (Qi D ca ad A (us1 ++ (loc ++ us)) e0) (e0 - (k + 1)) (slt e0 - slt (k + 1)) A :=
  hCI D ca ad A (loc ++ us) X0.1 C0.2.2.2.2.2.2.2.1 C0.2.2.2.2.2.2.2.2.1 (fun q hq => C0.2.2.2.2.2.2.2.2.2.1 q (by rw [hn] at hz; have := hS.1; omega)) ((u_cnt X0).trans hn) (fun x hx => by
    rcases List.mem_append.mp hx with q | q
    · exact all_lt hall x q
    · rcases X0.2.2.1 x q with z | z
      · exact Or.inl (by omega)
      · exact Or.inr z)
theorem u_callN (C0 : CX p s m args meth c cc nL own D ca ad A) (X0 : UX s ad us d) {host : String} (hCI : CI l y b nl fr lc k e0 us1) (hn : cnd d loc = k + 1) (hdk : d ≤ k + 1) (hke : k + 1 ≤ e0) (hall : loc.all (fun e => Nat.blt e.1 (k + 1) || Nat.beq e.1 337) = true) (hcode : Cond.code y b nl none ∈ GT) (hlink : Cond.methodLinkNest own idx y host ∈ NT) (hinst : Cond.instanceMethod y ∈ GT) (hini : Cond.initialized y.cls ∈ GT) (hy : y.cls ≠ "java/lang/invoke/MethodHandle" ∧ y.cls ≠ "java/lang/invoke/VarHandle") (hyn : y.name = "<init>") (hpn : (parseMethodDescriptor y.desc).map (fun d => d.parameters.length) = some 0)
    (hrm : fr + 1 ≤ R.frames ∧ 8 + (nl + 11) + lc ≤ R.locals) (hf : k + 1 - d + (e0 - (k + 1)) ≤ R.cells ∧ slt (k + 1) - slt d + (slt e0 - slt (k + 1)) ≤ R.slots) (hd : decode cc pc = .ok (.invokespecial idx, 3)) (hcat : Nat.ble (cats st) 8 = true) (hcn : cnd d (us1 ++ loc) = e0)
    (h : JU p l e R s m args below meth c nL D ca ad A Qf us d (pc + 3) ls st (us1 ++ loc)) : JU p l e R s m args below meth c nL D ca ad A Qf us d pc ls (vR k :: st) loc := by
  intro H locs lsA hz hP hS hl
  have hM := u_met C0 X0 hCI hn hdk hall hz hS
  have hpre := u_pre C0 X0 hn (locs := locs) hz hP
  rw [hn]
  refine u_back C0 X0 hn hdk hke hcn rfl hS hl ?_ h
  exact va_runIN (cc := cc) (nL := nL) (Ts := GT) (own := own) (host := host) (As := []) (index := idx) (n := 0) (b := ad k) (bytes := b) (maxL := nl) ⟨C0.1, C0.2.1, C0.2.2.1, C0.2.2.2.1, C0.2.2.2.2.1⟩ hM
    ⟨⟨⟨rfl, rfl, hrm.1, hrm.2, hws_of C0 hcode, List.mem_cons_self⟩, C0.2.2.2.2.1 _ hcode, C0.2.2.2.2.1 _ hini, hy, params_of hpn, va_Nw.use rfl (C0.2.2.2.2.2.1 _ hlink)⟩, hyn, C0.2.2.2.2.1 _ hinst⟩
    ⟨blindI, hpre⟩ rfl rfl hl.1 rfl (cats_le (m := m) (pc := pc) hcat) hd hf
theorem u_call (C0 : CX p s m args meth c cc nL own D ca ad A) (X0 : UX s ad us d) (hCI : CI l y b nl fr lc k e0 us1) (hn : cnd d loc = k + 1) (hdk : d ≤ k + 1) (hke : k + 1 ≤ e0) (hall : loc.all (fun e => Nat.blt e.1 (k + 1) || Nat.beq e.1 337) = true) (hcode : Cond.code y b nl none ∈ GT) (hlink : Cond.methodLink own idx y ∈ GT) (hinst : Cond.instanceMethod y ∈ GT) (hini : Cond.initialized y.cls ∈ GT) (hy : y.cls ≠ "java/lang/invoke/MethodHandle" ∧ y.cls ≠ "java/lang/invoke/VarHandle") (hyn : y.name = "<init>") (hpn : (parseMethodDescriptor y.desc).map (fun d => d.parameters.length) = some 0)
    (hrm : fr + 1 ≤ R.frames ∧ 8 + (nl + 11) + lc ≤ R.locals) (hf : k + 1 - d + (e0 - (k + 1)) ≤ R.cells ∧ slt (k + 1) - slt d + (slt e0 - slt (k + 1)) ≤ R.slots) (hd : decode cc pc = .ok (.invokespecial idx, 3)) (hcat : Nat.ble (cats st) 8 = true) (hcn : cnd d (us1 ++ loc) = e0)
    (h : JU p l e R s m args below meth c nL D ca ad A Qf us d (pc + 3) ls st (us1 ++ loc)) : JU p l e R s m args below meth c nL D ca ad A Qf us d pc ls (vR k :: st) loc := by
  intro H locs lsA hz hP hS hl
  have hM := u_met C0 X0 hCI hn hdk hall hz hS
  have hpre := u_pre C0 X0 hn (locs := locs) hz hP
  rw [hn]
  refine u_back C0 X0 hn hdk hke hcn rfl hS hl ?_ h
  exact va_runI (cc := cc) (nL := nL) (Ts := GT) (own := own) (As := []) (index := idx) (n := 0) (b := ad k) (bytes := b) (maxL := nl) ⟨C0.1, C0.2.1, C0.2.2.1, C0.2.2.2.1, C0.2.2.2.2.1⟩ hM
    ⟨⟨rfl, rfl, hrm.1, hrm.2, hws_of C0 hcode, List.mem_cons_self, C0.2.2.2.2.1 _ hcode, C0.2.2.2.2.1 _ hini, hy, params_of hpn, C0.2.2.2.2.1 _ hlink⟩, hyn, C0.2.2.2.2.1 _ hinst⟩
    ⟨blindI, hpre⟩ rfl rfl hl.1 rfl (cats_le (m := m) (pc := pc) hcat) hd hf
end Ini
