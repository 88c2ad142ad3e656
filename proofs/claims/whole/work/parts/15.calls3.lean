--BLTRUE
section Calls3
def enL : List Vl → Ls
  | [] => []
  | v :: vs => match catv v with
    | 2 => some v :: none :: enL vs
    | _ => some v :: enL vs
def padL (nl : Nat) (ls : Ls) : Ls := ls ++ List.replicate (nl - ls.length) none
theorem enL_in {ad : Nat → Nat} : ∀ {as : List Vl} {i off : Nat} {v : Vl}, nth (enL as) i = some (some v) → (off + i, vv ad v) ∈ lv_args off (as.map (vv ad))
  | [], i, off, v, h => by simp [enL, nth] at h
  | w :: as, i, off, v, h => by
    have hc : catv w = 2 ∨ catv w = 1 := by rcases w with x | k | x | a <;> simp [catv]
    rw [List.map_cons, lv_args, cat_vv]
    rcases hc with hc | hc
    · rw [enL] at h
      simp only [hc] at h
      match i, h with
      | 0, h =>
        have : w = v := by simpa [nth] using h
        rw [this]
        exact List.mem_cons_self
      | 1, h => simp [nth] at h
      | i + 2, h =>
        have := enL_in (ad := ad) (as := as) (i := i) (off := off + 2) (v := v) h
        rw [hc, if_pos rfl]
        rw [show off + (i + 2) = off + 2 + i by omega]
        exact List.mem_cons_of_mem _ this
    · rw [enL] at h
      simp only [hc] at h
      match i, h with
      | 0, h =>
        have : w = v := by simpa [nth] using h
        rw [this]
        exact List.mem_cons_self
      | i + 1, h =>
        have := enL_in (ad := ad) (as := as) (i := i) (off := off + 1) (v := v) h
        rw [hc, if_neg (by decide)]
        rw [show off + (i + 1) = off + 1 + i by omega]
        exact List.mem_cons_of_mem _ this
theorem nth_pad {nl : Nat} {ls : Ls} {i : Nat} {v : Vl} (h : nth (padL nl ls) i = some (some v)) : nth ls i = some (some v) := by
  unfold padL at h
  rw [nth_eq] at h ⊢
  rcases Nat.lt_or_ge i ls.length with q | q
  · rw [List.getElem?_append_left q] at h
    exact h
  · rw [List.getElem?_append_right q, List.getElem?_replicate] at h
    split at h <;> simp at h
theorem enL_len (ad : Nat → Nat) : ∀ as : List Vl, (lg_sl (as.map (vv ad))).length = (enL as).length
  | [] => rfl
  | v :: as => by
    have ih := enL_len ad as
    have hc : catv v = 2 ∨ catv v = 1 := by rcases v with x | k | x | a <;> simp [catv]
    unfold lg_sl at ih ⊢
    rw [List.map_cons, List.flatMap_cons, List.length_append, ih, cat_vv, enL]
    rcases hc with hc | hc
    · simp only [hc, if_pos]
      simp
      omega
    · simp only [hc]
      simp
      omega
theorem enL_ok {as : List Vl} (h : ∀ v ∈ as, okv v) : ∀ v, some v ∈ enL as → okv v := by
  induction as with
  | nil => intro v hv; cases hv
  | cons w as ih =>
    intro v hv
    rw [enL] at hv
    have ih' := ih (fun v hv => h v (List.mem_cons_of_mem _ hv))
    split at hv
    · rcases List.mem_cons.mp hv with hv | hv
      · cases hv; exact h _ List.mem_cons_self
      · rcases List.mem_cons.mp hv with hv | hv
        · cases hv
        · exact ih' v hv
    · rcases List.mem_cons.mp hv with hv | hv
      · cases hv; exact h _ List.mem_cons_self
      · exact ih' v hv
theorem pad_ok {nl : Nat} {ls : Ls} (h : ∀ v, some v ∈ ls → okv v) : ∀ v, some v ∈ padL nl ls → okv v := by
  intro v hv
  rcases List.mem_append.mp hv with q | q
  · exact h v q
  · have := List.eq_of_mem_replicate q
    cases this
theorem entry_lvA {ad : Nat → Nat} {as : List Vl} {nl : Nat} (h : (enL as).length ≤ nl) : lvA nl ad (padL nl (enL as)) ((lg_sl (as.map (vv ad)) ++ List.replicate (nl - (lg_sl (as.map (vv ad))).length) Slot.unset).toArray) := by
  have hh := lv_entry (as.map (vv ad)) (n := nl) (by rw [enL_len]; exact h)
  refine ⟨hh.1, hh.2.1, ?_, fun i v hv => ?_⟩
  · unfold padL
    rw [List.length_append, List.length_replicate]
    omega
  · have := enL_in (ad := ad) (off := 0) (nth_pad hv)
    rw [Nat.zero_add] at this
    exact hh.2.2 _ this
variable {p : Program} {l : Launch} {e : Env} {R : Room} {s : State} {m : MethodId} {args : Array Value} {below : List Frame} {meth : Method} {c : Code} {cc : ByteArray} {nL : Nat} {own : String} {D : va_G} {ca : Nat → ClassId} {ad : Nat → Nat} {A : Nat → Prop} {Qf : State → Prop} {gc gs : Nat → Nat} {bl : Bool}
variable {J : JT} {Q : QT} {k : Kt} {pc nx : Nat}
variable {sx sy : Nat → Nat} {mc ms : Nat}
theorem q_ret {x : Option Vl} {M : Mem} {H : Heap} {locs : List Loc} {ov : Option Value} (hx : ov = x.map (vv ad)) (hQ : Q (.inl x) M) (hR : rng M) (hok : ∀ v, x = some v → okv v) (hP : va_P D vwCl (mk true ca ad M) H) (hS : va_S A s.heap H locs) :
    ∀ t : State, t.heap = H → s.WarmedH t.vm → Qn D ca ad A Q args s (.returned ov) t := by
  intro t ht _
  exact ⟨⟨x, M, by rw [hx], hQ, hR, hok, by rw [ht]; exact hP⟩, hS.F ht⟩
theorem s_ri (C0 : CX p s m args meth c cc nL own D ca ad A) (hr : meth.sig.returnType = some .int) (hd : decode cc pc = .ok (.ireturn, 1)) (hm : gc pc ≤ mc ∧ gs pc ≤ ms) :
    ∀ ls st M, tx_ri J Q k ls st M → JW p l e R s m args below meth c nL D ca ad A (vx_MQ below (Qn D ca ad A Q) (Qx D ca ad A Q) args s mc ms A) gc gs true pc ls st M := by
  intro ls st M h H locs lsA hR hc hz hP hS ho hol hl
  unfold tx_ri at h
  split at h
  · rename_i x
    exact vx_ret (W.widen hm.1 hm.2 (W.iret C0.1 C0.2.1 hr (q_ret (x := some (.inl x)) rfl h hR (fun v hv => by cases hv; exact okh ho) hP hS) hS.2.2 hd C0.2.2.2.2.2.2.2.2.2.2))
  · exact h.elim
theorem s_rz (C0 : CX p s m args meth c cc nL own D ca ad A) (hr : meth.sig.returnType = some .boolean) (hd : decode cc pc = .ok (.ireturn, 1)) (hm : gc pc ≤ mc ∧ gs pc ≤ ms) :
    ∀ ls st M, tx_rz J Q k ls st M → JW p l e R s m args below meth c nL D ca ad A (vx_MQ below (Qn D ca ad A Q) (Qx D ca ad A Q) args s mc ms A) gc gs true pc ls st M := by
  intro ls st M h H locs lsA hR hc hz hP hS ho hol hl
  unfold tx_rz at h
  split at h
  · rename_i x
    exact vx_ret (W.widen hm.1 hm.2 (W.zret C0.1 C0.2.1 hr (zf h.1).1 (q_ret (x := some (.inl x)) rfl h.2 hR (fun v hv => by cases hv; exact okh ho) hP hS) hS.2.2 hd C0.2.2.2.2.2.2.2.2.2.2))
  · exact h.elim
theorem s_rl (C0 : CX p s m args meth c cc nL own D ca ad A) (hr : meth.sig.returnType = some .long) (hd : decode cc pc = .ok (.lreturn, 1)) (hm : gc pc ≤ mc ∧ gs pc ≤ ms) :
    ∀ ls st M, tx_rl J Q k ls st M → JW p l e R s m args below meth c nL D ca ad A (vx_MQ below (Qn D ca ad A Q) (Qx D ca ad A Q) args s mc ms A) gc gs true pc ls st M := by
  intro ls st M h H locs lsA hR hc hz hP hS ho hol hl
  unfold tx_rl at h
  split at h
  · rename_i x
    exact vx_ret (W.widen hm.1 hm.2 (W.lret C0.1 C0.2.1 hr (q_ret (x := some (.inr (.inr (.inl x)))) rfl h hR (fun v hv => by cases hv; exact okh ho) hP hS) hS.2.2 hd C0.2.2.2.2.2.2.2.2.2.2))
  · exact h.elim
theorem s_ra (C0 : CX p s m args meth c cc nL own D ca ad A) {B : String} (hr : meth.sig.returnType = some (.object B)) (hd : decode cc pc = .ok (.areturn, 1)) (hm : gc pc ≤ mc ∧ gs pc ≤ ms) :
    ∀ ls st M, tx_ra J Q k ls st M → JW p l e R s m args below meth c nL D ca ad A (vx_MQ below (Qn D ca ad A Q) (Qx D ca ad A Q) args s mc ms A) gc gs true pc ls st M := by
  intro ls st M h H locs lsA hR hc hz hP hS ho hol hl
  unfold tx_ra at h
  split at h
  · rename_i x
    exact vx_ret (W.widen hm.1 hm.2 (W.aret C0.1 C0.2.1 hr (Or.inl ⟨B, rfl⟩) (Or.inr ⟨ad x, rfl⟩) (q_ret (x := some (.inr (.inl x))) rfl h hR (fun v hv => by cases hv; trivial) hP hS) hS.2.2 hd C0.2.2.2.2.2.2.2.2.2.2))
  · exact h.elim
theorem s_rv (C0 : CX p s m args meth c cc nL own D ca ad A) (hr : meth.sig.returnType = none) (hd : decode cc pc = .ok (.return_, 1)) (hm : gc pc ≤ mc ∧ gs pc ≤ ms) :
    ∀ ls st M, tx_rv J Q k ls st M → JW p l e R s m args below meth c nL D ca ad A (vx_MQ below (Qn D ca ad A Q) (Qx D ca ad A Q) args s mc ms A) gc gs true pc ls st M := by
  intro ls st M h H locs lsA hR hc hz hP hS ho hol hl
  unfold tx_rv at h
  split at h
  · exact vx_ret (W.widen hm.1 hm.2 (W.vret C0.1 C0.2.1 hr (q_ret (x := none) rfl h hR (fun v hv => by cases hv) hP hS) hS.2.2 hd C0.2.2.2.2.2.2.2.2.2.2))
  · exact h.elim
/-- calls of a nest mate's private methods -/
theorem run_of {mc1 ms1 : Nat} {H : Heap} {locs : List Loc} {g : JFrame} {rest : List Value} {a : Array Value} {post post2 : QT} (hpp : ∀ r M, post (.inl r) M → post2 (.inl r) M) (h : va_Run p l e R s m args below meth c H locs (gc pc) (gs pc) mc1 ms1 g rest (Qn D ca ad A post a) A) :
    vx_Run p l e R s m args below meth c H locs (gc pc) (gs pc) mc1 ms1 g rest (Qn D ca ad A post2 a) (Qx D ca ad A post2) A := by
  intro T hT X
  obtain ⟨v, st₀, t, T', L, h0, X', hL, e1, e2, ⟨⟨o, M', hv, hp, hrg, hok, hP⟩, hF⟩, st⟩ := h T hT X
  exact Or.inl ⟨v, st₀, t, T', L, h0, X', hL, e1, e2, ⟨⟨o, M', hv, hpp _ _ hp, hrg, hok, hP⟩, hF⟩, st⟩
def only (post : QT) : QT := fun o M => (∃ r, o = .inl r) ∧ post o M
theorem nf_only {G : FN} {as : List Vl} {M : Mem} {post : QT} (h : nf G as M post) : nf G as M (only post) := by
  unfold nf only at *
  have ee : (fun (r : Option Vl) (M' : Mem) => (∃ r' : Option Vl, (Sum.inl r : Option Vl ⊕ Nat) = .inl r') ∧ post (.inl r) M') = fun r M' => post (.inl r) M' := by
    funext r M'
    exact propext ⟨fun q => q.2, fun q => ⟨⟨r, rfl⟩, q⟩⟩
  rw [ee]
  exact h
variable {y : MethodName} {b : ByteArray} {nl fr lc mc1 idx n c0 N : Nat} {ret : Option FieldType} {G : (Nat → Nat) → FN} {C host : String} {T : u_T}
theorem s_callVN (C0 : CX p s m args meth c cc nL own D ca ad A) (hE : EX sx sy A s s.heap) (hCt : Ctr l y b nl ret fr lc mc1 (fun q => nf (G q))) (hcode : Cond.code y b nl ret ∈ GT) (hlink : Cond.methodLinkNest own idx y host ∈ NT) (hinst : Cond.instanceMethod y ∈ GT) (hsel : Cond.selects C y y ∈ GT) (hini : Cond.initialized y.cls ∈ GT) (hy : y.cls ≠ "java/lang/invoke/MethodHandle" ∧ y.cls ≠ "java/lang/invoke/VarHandle") (hn : (parseMethodDescriptor y.desc).map (fun d => d.parameters.length) = some n) (hcl : vwCl[c0]? = some (C, T, N))
    (hrm : fr + 1 ≤ R.frames ∧ 8 + (nl + 11) + lc ≤ R.locals) (hf : gc pc + mc1 ≤ R.cells ∧ gs pc + 6 * mc1 ≤ R.slots) (hd : decode cc pc = .ok (.invokevirtual idx, 3)) (hout : ∀ x ∈ c.exceptionTable.toList, covers x pc = false)
    (hg : gc pc + mc1 ≤ gc (pc + 3) ∧ gs pc + 6 * mc1 ≤ gs (pc + 3)) (hmc : gc pc + mc1 ≤ mc ∧ gs pc + 6 * mc1 ≤ ms)
    (hk : ∀ ls st M, k ls st M → JW p l e R s m args below meth c nL D ca ad A (vx_MQ below (Qn D ca ad A Q) (Qx D ca ad A Q) args s mc ms A) gc gs true (pc + 3) ls st M) :
    ∀ ls st M, tx_callv c0 (nf (G sx)) n J Q k ls st M → JW p l e R s m args below meth c nL D ca ad A (vx_MQ below (Qn D ca ad A Q) (Qx D ca ad A Q) args s mc ms A) gc gs true pc ls st M := by
  intro ls st M h H locs lsA hR hc hz hP hS ho hol hl
  unfold tx_callv at h
  split at h
  · rename_i a as r hpop
    split at h
    · rename_i hcat
      obtain ⟨hob, h⟩ := h
      obtain ⟨hlen, hst⟩ := pop_st hpop
      obtain ⟨hoa, hor⟩ := ok_args hst ho
      refine s_after (mc1 := mc1) (ms1 := 6 * mc1) (r := r) (a := (Value.ref (ad a) :: as.map (vv ad)).toArray) C0.2.2.2.2.2.2.2.2.2.2 hout C0.2.2.2.2.2.2.2.2.2.1 hg hmc hS hor hol hl hk ?_
      refine run_of (post := only (aft Q k ls r)) (fun _ _ q => q.2) ?_
      refine va_runVN (cc := cc) (nL := nL) (Ts := GT) (own := own) (C := C) (host := host) (As := as.map (vv ad)) (index := idx) (n := n) (b := ad a) (bytes := b) (maxL := nl) (ret := ret) ⟨C0.1, C0.2.1, C0.2.2.1, C0.2.2.2.1, C0.2.2.2.2.1⟩
        (met_of (hCt D ca ad sx sy A H.size (.inr (.inl a) :: as) M (only (aft Q k ls r)) C0.2.2.2.2.2.2.2.1 C0.2.2.2.2.2.2.2.2.1 (fun q hq => C0.2.2.2.2.2.2.2.2.2.1 q (Nat.le_trans hS.1 hq)) hR hoa (nf_only h)) (fun n M q => by obtain ⟨⟨r, hr⟩, -⟩ := q; cases hr))
        ⟨⟨⟨rfl, rfl, hrm.1, hrm.2, hws_of C0 hcode, List.mem_cons_self⟩, C0.2.2.2.2.1 _ hcode, C0.2.2.2.2.1 _ hini, hy, params_of hn, va_Nw.use rfl (C0.2.2.2.2.2.1 _ hlink)⟩, C0.2.2.2.2.1 _ hinst, C0.2.2.2.2.1 _ hsel⟩
        ⟨blind, recv_at C0 hcl hob hP, fun U hU hW => ⟨rfl, pcb_at C0 hE rfl hP hS hU hW⟩⟩ rfl ?_ hl.1 ?_ (cats_le (m := m) (pc := pc) hcat) hd hf
      · rw [List.length_map]
        simp at hlen
        exact hlen
      · show st.map (vv ad) = (as.map (vv ad)).reverse ++ .ref (ad a) :: r.map (vv ad)
        rw [hst]
        simp [vv]
    · exact h.elim
  · exact h.elim
theorem s_callSN (C0 : CX p s m args meth c cc nL own D ca ad A) (hE : EX sx sy A s s.heap) (hCt : Ctr l y b nl ret fr lc mc1 (fun q => nf (G q))) (hcode : Cond.code y b nl ret ∈ GT) (hlink : Cond.methodLinkNest own idx y host ∈ NT) (hstat : Cond.static y ∈ GT) (hini : Cond.initialized y.cls ∈ GT) (hy : y.cls ≠ "java/lang/invoke/MethodHandle" ∧ y.cls ≠ "java/lang/invoke/VarHandle") (hn : (parseMethodDescriptor y.desc).map (fun d => d.parameters.length) = some n)
    (hrm : fr + 1 ≤ R.frames ∧ 8 + (nl + 11) + lc ≤ R.locals) (hf : gc pc + mc1 ≤ R.cells ∧ gs pc + 6 * mc1 ≤ R.slots) (hd : decode cc pc = .ok (.invokestatic idx, 3)) (hout : ∀ x ∈ c.exceptionTable.toList, covers x pc = false)
    (hg : gc pc + mc1 ≤ gc (pc + 3) ∧ gs pc + 6 * mc1 ≤ gs (pc + 3)) (hmc : gc pc + mc1 ≤ mc ∧ gs pc + 6 * mc1 ≤ ms)
    (hk : ∀ ls st M, k ls st M → JW p l e R s m args below meth c nL D ca ad A (vx_MQ below (Qn D ca ad A Q) (Qx D ca ad A Q) args s mc ms A) gc gs true (pc + 3) ls st M) :
    ∀ ls st M, tx_call (nf (G sx)) n J Q k ls st M → JW p l e R s m args below meth c nL D ca ad A (vx_MQ below (Qn D ca ad A Q) (Qx D ca ad A Q) args s mc ms A) gc gs true pc ls st M := by
  intro ls st M h H locs lsA hR hc hz hP hS ho hol hl
  unfold tx_call at h
  split at h
  · rename_i as r hpop
    split at h
    · rename_i hcat
      obtain ⟨hlen, hst⟩ := pop_st hpop
      obtain ⟨hoa, hor⟩ := ok_args hst ho
      refine s_after (mc1 := mc1) (ms1 := 6 * mc1) (r := r) (a := (as.map (vv ad)).toArray) C0.2.2.2.2.2.2.2.2.2.2 hout C0.2.2.2.2.2.2.2.2.2.1 hg hmc hS hor hol hl hk ?_
      refine run_of (post := only (aft Q k ls r)) (fun _ _ q => q.2) ?_
      refine va_runSN (cc := cc) (nL := nL) (Ts := GT) (own := own) (host := host) (As := as.map (vv ad)) (index := idx) (n := n) (bytes := b) (maxL := nl) (ret := ret) ⟨C0.1, C0.2.1, C0.2.2.1, C0.2.2.2.1, C0.2.2.2.2.1⟩
        (met_of (hCt D ca ad sx sy A H.size as M (only (aft Q k ls r)) C0.2.2.2.2.2.2.2.1 C0.2.2.2.2.2.2.2.2.1 (fun q hq => C0.2.2.2.2.2.2.2.2.2.1 q (Nat.le_trans hS.1 hq)) hR hoa (nf_only h)) (fun n M q => by obtain ⟨⟨r, hr⟩, -⟩ := q; cases hr))
        ⟨⟨⟨rfl, rfl, hrm.1, hrm.2, hws_of C0 hcode, List.mem_cons_self⟩, C0.2.2.2.2.1 _ hcode, C0.2.2.2.2.1 _ hini, hy, params_of hn, va_Nw.use rfl (C0.2.2.2.2.2.1 _ hlink)⟩, C0.2.2.2.2.1 _ hstat, trivial⟩
        ⟨blind, fun U hU hW => ⟨rfl, pcb_at C0 hE rfl hP hS hU hW⟩⟩ rfl ?_ hl.1 ?_ (cats_le (m := m) (pc := pc) hcat) hd hf
      · rw [List.length_map]
        exact hlen
      · show st.map (vv ad) = (as.map (vv ad)).reverse ++ r.map (vv ad)
        rw [hst]
        simp
    · exact h.elim
  · exact h.elim
/-- a contract out of a body -/
theorem ctr_of {F : (Nat → Nat) → FT} (hy : plainName y.cls = true) (gc gs : Nat → Nat) (h0 : gc 0 = 0 ∧ gs 0 = 0)
    (body : ∀ (p : Program) (e : Env) (s : State) (m : MethodId) (args : Array Value) (below : List Frame) (meth : Method) (c : Code) (D : va_G) (ca : Nat → ClassId) (ad sx sy : Nat → Nat) (A : Nat → Prop) (Q : QT) (as : List Vl) (M : Mem), CX p s m args meth c b nl y.cls D ca ad A → EX sx sy A s s.heap → meth.sig.returnType = ret → (∀ x ∈ c.exceptionTable.toList, False) → F sx as M Q →
      (enL as).length ≤ nl ∧ JW p l e { frames := fr, cells := mc1, slots := 6 * mc1, locals := lc } s m args below meth c nl D ca ad A (vx_MQ below (Qn D ca ad A Q) (Qx D ca ad A Q) args s mc1 (6 * mc1) A) gc gs true 0 (padL nl (enL as)) [] M) : Ctr l y b nl ret fr lc mc1 F := by
  intro D ca ad sx sy A sz as M post hinj hA hsz hR hoa hF
  refine vx_ofW (cc := b) (maxL := nl) (ret := ret) hy rfl ?_
  intro p e s m args below meth c s₁ B hml hno hv
  obtain ⟨rfl, hz, hP, ⟨hK, hN⟩, hE⟩ := hv
  have hts := atoms_spec (ws := Cond.code y b nl ret :: GT) B.pre
  have C0 : CX p s m ((as.map (vv ad)).toArray) meth c b nl y.cls D ca ad A := ⟨B.exec, B.bytes, hml, findClass_of_methodNamed B.named, fun w hw => hts w (List.mem_cons_of_mem _ hw), hN, hK, hinj, hA, fun q hq => hsz q (by omega), B.notSynchronized⟩
  obtain ⟨hlen, hJ⟩ := body p e s m _ below meth c D ca ad sx sy A post as M C0 hE B.returns hno hF
  rw [lg_entry_eq]
  have := hJ s.heap [] _ hR (Nat.le_refl _) (fun q => nomatch q) hP va_S.rf (fun v hv => by cases hv) (pad_ok (enL_ok hoa)) (entry_lvA hlen)
  rw [h0.1, h0.2] at this
  exact this
end Calls3
