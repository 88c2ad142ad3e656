--BLTRUE
section Calls2
variable {p : Program} {l : Launch} {e : Env} {R : Room} {s : State} {m : MethodId} {args : Array Value} {below : List Frame} {meth : Method} {c : Code} {cc : ByteArray} {nL : Nat} {own : String} {D : va_G} {ca : Nat → ClassId} {ad : Nat → Nat} {A : Nat → Prop} {Qf : State → Prop} {gc gs : Nat → Nat} {bl : Bool}
variable {J : JT} {Q : QT} {k : Kt} {pc nx : Nat}
variable {sx sy : Nat → Nat}
theorem pcb_at (C0 : CX p s m args meth c cc nL own D ca ad A) (hE : EX sx sy A s s.heap) {H : Heap} {locs : List Loc} {M : Mem} {sz : Nat} (hz : H.size = sz) (hP : va_P D vwCl (mk true ca ad M) H) (hS : va_S A s.heap H locs) {U : State} (hU : U.heap = H) (hW : s.WarmedH U.vm) : PcB D ca ad sx sy A sz M U := by
  refine ⟨by rw [hU]; exact hz, by rw [hU]; exact hP, ⟨va_K.moved hW.alike C0.2.2.2.2.2.2.1, nest_warm hW C0.2.2.2.2.2.1⟩, ?_⟩
  rw [hU]
  exact (hE.warm hW).kept hS.2.1
theorem recv_at (C0 : CX p s m args meth c cc nL own D ca ad A) {c0 N a : Nat} {C : String} {T : u_T} {M : Mem} {H : Heap} (hcl : vwCl[c0]? = some (C, T, N)) (hob : OB a c0) (hP : va_P D vwCl (mk true ca ad M) H) : ∃ cellB : Cell, H[ad a]? = some cellB ∧ cellB.vm.isStatics = false ∧ s.vm.findClass C = some cellB.cls := by
  obtain ⟨r, h1, cell, q1, q2, q3, q4⟩ := hP a _ (mk_ob hob)
  refine ⟨cell, q1, by rw [q3]; rfl, ?_⟩
  rw [q2]
  exact (C0.2.2.2.2.2.2.1.1 c0 _ hcl).2.1
theorem hws_of (C0 : CX p s m args meth c cc nL own D ca ad A) {y : MethodName} {b : ByteArray} {nl : Nat} {ret : Option FieldType} (hcode : Cond.code y b nl ret ∈ GT) : ∀ w ∈ (Cond.code y b nl ret :: GT), ∀ (a' : Array Value) (U : State), s.WarmedH U.vm → w.before a' U = true :=
  pay_in C0.2.2.2.2.1 (fun w hw => by
    rcases List.mem_cons.mp hw with rfl | hw
    · exact gt_good _ hcode
    · exact gt_good _ hw)
theorem params_of {y : MethodName} {n : Nat} (hn : (parseMethodDescriptor y.desc).map (fun d => d.parameters.length) = some n) : ∀ sig, parseMethodDescriptor y.desc = some sig → n = sig.parameters.length := by
  intro sig h
  rw [h] at hn
  exact (Option.some.inj hn).symm
theorem pop_st {n : Nat} {st r : St} {as : List Vl} (h : popn n st [] = some (as, r)) : as.length = n ∧ st = as.reverse ++ r := by
  obtain ⟨xs, h1, h2, h3⟩ := popn_eq n st [] as r h
  rw [List.append_nil] at h2
  exact ⟨by rw [h2, List.length_reverse]; exact h1, by rw [h2, List.reverse_reverse]; exact h3⟩
theorem ok_args {as : List Vl} {st r : St} (h : st = as.reverse ++ r) (ho : ∀ v ∈ st, okv v) : (∀ v ∈ as, okv v) ∧ ∀ v ∈ r, okv v := by
  subst h
  exact ⟨fun v hv => ho v (List.mem_append_left _ (List.mem_reverse.mpr hv)), fun v hv => ho v (List.mem_append_right _ hv)⟩
variable {y : MethodName} {b : ByteArray} {nl fr lc mc1 mc ms idx n c0 N : Nat} {ret : Option FieldType} {F : (Nat → Nat) → FT} {C host : String} {T : u_T}
theorem s_callV (C0 : CX p s m args meth c cc nL own D ca ad A) (hE : EX sx sy A s s.heap) (hCt : Ctr l y b nl ret fr lc mc1 F) (hcode : Cond.code y b nl ret ∈ GT) (hlink : Cond.methodLink own idx y ∈ GT) (hinst : Cond.instanceMethod y ∈ GT) (hsel : Cond.selects C y y ∈ GT) (hini : Cond.initialized y.cls ∈ GT) (hy : y.cls ≠ "java/lang/invoke/MethodHandle" ∧ y.cls ≠ "java/lang/invoke/VarHandle") (hn : (parseMethodDescriptor y.desc).map (fun d => d.parameters.length) = some n) (hcl : vwCl[c0]? = some (C, T, N))
    (hrm : fr + 1 ≤ R.frames ∧ 8 + (nl + 11) + lc ≤ R.locals) (hf : gc pc + mc1 ≤ R.cells ∧ gs pc + 6 * mc1 ≤ R.slots) (hd : decode cc pc = .ok (.invokevirtual idx, 3)) (hout : ∀ x ∈ c.exceptionTable.toList, covers x pc = false)
    (hg : gc pc + mc1 ≤ gc (pc + 3) ∧ gs pc + 6 * mc1 ≤ gs (pc + 3)) (hmc : gc pc + mc1 ≤ mc ∧ gs pc + 6 * mc1 ≤ ms)
    (hk : ∀ ls st M, k ls st M → JW p l e R s m args below meth c nL D ca ad A (vx_MQ below (Qn D ca ad A Q) (Qx D ca ad A Q) args s mc ms A) gc gs true (pc + 3) ls st M) :
    ∀ ls st M, tx_callv c0 (F sx) n J Q k ls st M → JW p l e R s m args below meth c nL D ca ad A (vx_MQ below (Qn D ca ad A Q) (Qx D ca ad A Q) args s mc ms A) gc gs true pc ls st M := by
  intro ls st M h H locs lsA hR hc hz hP hS ho hol hl
  unfold tx_callv at h
  split at h
  · rename_i a as r hpop
    split at h
    · rename_i hcat
      obtain ⟨hob, h⟩ := h
      obtain ⟨hlen, hst⟩ := pop_st hpop
      obtain ⟨hoa, hor⟩ := ok_args hst ho
      refine s_after (mc1 := mc1) (ms1 := 6 * mc1) (r := r) (a := (Value.ref (ad a) :: as.map (vv ad)).toArray) C0.2.2.2.2.2.2.2.2.2.2 hout C0.2.2.2.2.2.2.2.2.2.1 hg hmc hS hor hol hl hk ?_
      refine vx_runV (cc := cc) (nL := nL) (Ts := GT) (own := own) (C := C) (As := as.map (vv ad)) (index := idx) (n := n) (b := ad a) (bytes := b) (maxL := nl) (ret := ret) ⟨C0.1, C0.2.1, C0.2.2.1, C0.2.2.2.1, C0.2.2.2.2.1⟩
        (hCt D ca ad sx sy A H.size (.inr (.inl a) :: as) M (aft Q k ls r) C0.2.2.2.2.2.2.2.1 C0.2.2.2.2.2.2.2.2.1 (fun q hq => C0.2.2.2.2.2.2.2.2.2.1 q (Nat.le_trans hS.1 hq)) hR hoa h)
        ⟨⟨rfl, rfl, hrm.1, hrm.2, hws_of C0 hcode, List.mem_cons_self, C0.2.2.2.2.1 _ hcode, C0.2.2.2.2.1 _ hini, hy, params_of hn, C0.2.2.2.2.1 _ hlink⟩, C0.2.2.2.2.1 _ hinst, C0.2.2.2.2.1 _ hsel⟩
        ⟨blind, recv_at C0 hcl hob hP, fun U hU hW => ⟨rfl, pcb_at C0 hE rfl hP hS hU hW⟩⟩ rfl ?_ hl.1 ?_ (cats_le (m := m) (pc := pc) hcat) hd hf
      · rw [List.length_map]
        simp at hlen
        exact hlen
      · show st.map (vv ad) = (as.map (vv ad)).reverse ++ .ref (ad a) :: r.map (vv ad)
        rw [hst]
        simp [vv]
    · exact h.elim
  · exact h.elim
theorem s_callS (C0 : CX p s m args meth c cc nL own D ca ad A) (hE : EX sx sy A s s.heap) (hCt : Ctr l y b nl ret fr lc mc1 F) (hcode : Cond.code y b nl ret ∈ GT) (hlink : Cond.methodLink own idx y ∈ GT) (hstat : Cond.static y ∈ GT) (hini : Cond.initialized y.cls ∈ GT) (hy : y.cls ≠ "java/lang/invoke/MethodHandle" ∧ y.cls ≠ "java/lang/invoke/VarHandle") (hn : (parseMethodDescriptor y.desc).map (fun d => d.parameters.length) = some n)
    (hrm : fr + 1 ≤ R.frames ∧ 8 + (nl + 11) + lc ≤ R.locals) (hf : gc pc + mc1 ≤ R.cells ∧ gs pc + 6 * mc1 ≤ R.slots) (hd : decode cc pc = .ok (.invokestatic idx, 3)) (hout : ∀ x ∈ c.exceptionTable.toList, covers x pc = false)
    (hg : gc pc + mc1 ≤ gc (pc + 3) ∧ gs pc + 6 * mc1 ≤ gs (pc + 3)) (hmc : gc pc + mc1 ≤ mc ∧ gs pc + 6 * mc1 ≤ ms)
    (hk : ∀ ls st M, k ls st M → JW p l e R s m args below meth c nL D ca ad A (vx_MQ below (Qn D ca ad A Q) (Qx D ca ad A Q) args s mc ms A) gc gs true (pc + 3) ls st M) :
    ∀ ls st M, tx_call (F sx) n J Q k ls st M → JW p l e R s m args below meth c nL D ca ad A (vx_MQ below (Qn D ca ad A Q) (Qx D ca ad A Q) args s mc ms A) gc gs true pc ls st M := by
  intro ls st M h H locs lsA hR hc hz hP hS ho hol hl
  unfold tx_call at h
  split at h
  · rename_i as r hpop
    split at h
    · rename_i hcat
      obtain ⟨hlen, hst⟩ := pop_st hpop
      obtain ⟨hoa, hor⟩ := ok_args hst ho
      refine s_after (mc1 := mc1) (ms1 := 6 * mc1) (r := r) (a := (as.map (vv ad)).toArray) C0.2.2.2.2.2.2.2.2.2.2 hout C0.2.2.2.2.2.2.2.2.2.1 hg hmc hS hor hol hl hk ?_
      refine vx_runS (cc := cc) (nL := nL) (Ts := GT) (own := own) (As := as.map (vv ad)) (index := idx) (n := n) (bytes := b) (maxL := nl) (ret := ret) ⟨C0.1, C0.2.1, C0.2.2.1, C0.2.2.2.1, C0.2.2.2.2.1⟩
        (hCt D ca ad sx sy A H.size as M (aft Q k ls r) C0.2.2.2.2.2.2.2.1 C0.2.2.2.2.2.2.2.2.1 (fun q hq => C0.2.2.2.2.2.2.2.2.2.1 q (Nat.le_trans hS.1 hq)) hR hoa h)
        ⟨⟨rfl, rfl, hrm.1, hrm.2, hws_of C0 hcode, List.mem_cons_self, C0.2.2.2.2.1 _ hcode, C0.2.2.2.2.1 _ hini, hy, params_of hn, C0.2.2.2.2.1 _ hlink⟩, C0.2.2.2.2.1 _ hstat⟩
        ⟨blind, fun U hU hW => ⟨rfl, pcb_at C0 hE rfl hP hS hU hW⟩⟩ rfl ?_ hl.1 ?_ (cats_le (m := m) (pc := pc) hcat) hd hf
      · rw [List.length_map]
        exact hlen
      · show st.map (vv ad) = (as.map (vv ad)).reverse ++ r.map (vv ad)
        rw [hst]
        simp
    · exact h.elim
  · exact h.elim
/-- a contract that never throws, in the kit's plain form -/
theorem met_of {D : va_G} {ca : Nat → ClassId} {ad : Nat → Nat} {A : Nat → Prop} {ws : List Cond} {rm : Room} {Pc : Array Value → State → Prop} {post : QT} {mc ms : Nat} (h : vx_Met l y ws rm Pc (Qn D ca ad A post) (Qx D ca ad A post) mc ms A) (hno : ∀ n M, ¬ post (.inr n) M) : Met l y ws rm Pc (Qn D ca ad A post) mc ms A := by
  intro p e ha hc hk s m args below hf hap hP hK
  obtain ⟨n, o, h1, h2, h3, hQ⟩ := h p e ha hc hk s m args below hf hap hP hK
  refine ⟨n, o, h1, h2, h3, ?_⟩
  rcases hQ with hQ | ⟨q, -, E, ce, L, ⟨⟨n, M, -, -, hp, -⟩, -⟩, -⟩
  · exact hQ
  · exact absurd hp (hno n M)
end Calls2
