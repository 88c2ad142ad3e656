--BLTRUE
section Catch
variable {p : Program} {l : Launch} {e : Env} {R : Room} {s : State} {m : MethodId} {args : Array Value} {below : List Frame} {meth : Method} {c : Code} {cc : ByteArray} {nL : Nat} {own : String} {D : va_G} {ca : Nat → ClassId} {ad : Nat → Nat} {A : Nat → Prop} {Qf : State → Prop} {gc gs : Nat → Nat} {bl : Bool}
variable {J : JT} {Q : QT} {k : Kt} {pc nx : Nat}
variable {sx sy : Nat → Nat} {mc ms : Nat}
/-- a contract of a method that catches -/
def CtrH (l : Launch) (y : MethodName) (b : ByteArray) (nl : Nat) (ret : Option FieldType) (hh : List (Nat × Nat × Nat × Nat)) (fr lc mc : Nat) (F : (Nat → Nat) → FT) : Prop :=
  ∀ (D : va_G) (ca : Nat → ClassId) (ad sx sy : Nat → Nat) (A : Nat → Prop) (sz : Nat) (as : List Vl) (M : Mem) (post : QT), injA ad → (∀ k, k < 337 → A (ad k)) → (∀ q, sz ≤ q → A q) → rng M → (∀ v ∈ as, okv v) → F sx as M post →
    vx_Met l y (.codeWith y b nl ret hh :: GT) { frames := fr, cells := mc, slots := 6 * mc, locals := lc } (va_Pc (as.map (vv ad)) (PcB D ca ad sx sy A sz M)) (Qn D ca ad A post) (Qx D ca ad A post) mc (6 * mc) A
variable {y : MethodName} {b : ByteArray} {nl fr lc mc1 idx n c0 N : Nat} {ret : Option FieldType} {hh : List (Nat × Nat × Nat × Nat)} {F : (Nat → Nat) → FT} {C : String} {T : u_T}
theorem ctrH_of (hy : plainName y.cls = true) (gc gs : Nat → Nat) (h0 : gc 0 = 0 ∧ gs 0 = 0)
    (body : ∀ (p : Program) (e : Env) (s : State) (m : MethodId) (args : Array Value) (below : List Frame) (meth : Method) (c : Code) (D : va_G) (ca : Nat → ClassId) (ad sx sy : Nat → Nat) (A : Nat → Prop) (Q : QT) (as : List Vl) (M : Mem), CX p s m args meth c b nl y.cls D ca ad A → EX sx sy A s s.heap → meth.sig.returnType = ret → c.exceptionTable.toList = tableOf hh → F sx as M Q →
      (enL as).length ≤ nl ∧ JW p l e { frames := fr, cells := mc1, slots := 6 * mc1, locals := lc } s m args below meth c nl D ca ad A (vx_MQ below (Qn D ca ad A Q) (Qx D ca ad A Q) args s mc1 (6 * mc1) A) gc gs true 0 (padL nl (enL as)) [] M) : CtrH l y b nl ret hh fr lc mc1 F := by
  intro D ca ad sx sy A sz as M post hinj hA hsz hR hoa hF
  refine vx_ofWH (cc := b) (maxL := nl) (ret := ret) (hh := hh) hy rfl ?_
  intro p e s m args below meth c s₁ B hml hv
  obtain ⟨rfl, hz, hP, ⟨hK, hN⟩, hE⟩ := hv
  have hts := atoms_spec (ws := Cond.codeWith y b nl ret hh :: GT) B.pre
  have htab := vx_table (x := y) B (hts _ List.mem_cons_self)
  have C0 : CX p s m ((as.map (vv ad)).toArray) meth c b nl y.cls D ca ad A := ⟨B.exec, B.bytes, hml, findClass_of_methodNamed B.named, fun w hw => hts w (List.mem_cons_of_mem _ hw), hN, hK, hinj, hA, fun q hq => hsz q (by omega), B.notSynchronized⟩
  obtain ⟨hlen, hJ⟩ := body p e s m _ below meth c D ca ad sx sy A post as M C0 hE B.returns htab hF
  rw [lg_entry_eq]
  have := hJ s.heap [] _ hR (Nat.le_refl _) (fun q => nomatch q) hP va_S.rf (fun v hv => by cases hv) (pad_ok (enL_ok hoa)) (entry_lvA hlen)
  rw [h0.1, h0.2] at this
  exact this
/-- a row of the table that passes exception n on -/
def hpass (s : State) (own : String) (pc n : Nat) (z : ExceptionTableEntry) : Prop := covers z pc = false ∨ (z.catchType ≠ 0 ∧ ∃ nm : String, Cond.classLink own z.catchType nm ∈ GT ∧ va_Nc (enm n) nm s)
/-- where exception n goes to -/
def hgoes (s : State) (own : String) (tb : List ExceptionTableEntry) (pc : Nat) (gc gs : Nat → Nat) (mc1 ms1 n : Nat) : Option Nat → Prop
  | some hp => ∃ (pre : List ExceptionTableEntry) (x : ExceptionTableEntry) (suf : List ExceptionTableEntry) (name : String), tb = pre ++ x :: suf ∧ (∀ z ∈ pre, hpass s own pc n z) ∧ covers x pc = true ∧ x.catchType ≠ 0 ∧ Cond.classLink own x.catchType name ∈ GT ∧ Cond.castable (enm n) name ∈ FTW ∧ x.handlerPc = hp ∧ gc pc + mc1 ≤ gc hp ∧ gs pc + ms1 ≤ gs hp
  | none => ∀ z ∈ tb, hpass s own pc n z
theorem s_callVh (C0 : CX p s m args meth c cc nL own D ca ad A) (hE : EX sx sy A s s.heap) {hdl : Nat → Option Nat} {tb : List ExceptionTableEntry} (htb : c.exceptionTable.toList = tb) (hH : ∀ n, n = 1 ∨ n = 2 → hgoes s own tb pc gc gs mc1 (6 * mc1) n (hdl n)) (hCt : Ctr l y b nl ret fr lc mc1 F) (hcode : Cond.code y b nl ret ∈ GT) (hlink : Cond.methodLink own idx y ∈ GT) (hinst : Cond.instanceMethod y ∈ GT) (hsel : Cond.selects C y y ∈ GT) (hini : Cond.initialized y.cls ∈ GT) (hy : y.cls ≠ "java/lang/invoke/MethodHandle" ∧ y.cls ≠ "java/lang/invoke/VarHandle") (hn : (parseMethodDescriptor y.desc).map (fun d => d.parameters.length) = some n) (hcl : vwCl[c0]? = some (C, T, N))
    (hrm : fr + 1 ≤ R.frames ∧ 8 + (nl + 11) + lc ≤ R.locals) (hf : gc pc + mc1 ≤ R.cells ∧ gs pc + 6 * mc1 ≤ R.slots) (hd : decode cc pc = .ok (.invokevirtual idx, 3))
    (hg : gc pc + mc1 ≤ gc (pc + 3) ∧ gs pc + 6 * mc1 ≤ gs (pc + 3)) (hmc : gc pc + mc1 ≤ mc ∧ gs pc + 6 * mc1 ≤ ms)
    (hj : ∀ hp ls st M, J hp ls st M → JW p l e R s m args below meth c nL D ca ad A (vx_MQ below (Qn D ca ad A Q) (Qx D ca ad A Q) args s mc ms A) gc gs true hp ls st M)
    (hk : ∀ ls st M, k ls st M → JW p l e R s m args below meth c nL D ca ad A (vx_MQ below (Qn D ca ad A Q) (Qx D ca ad A Q) args s mc ms A) gc gs true (pc + 3) ls st M) :
    ∀ ls st M, tx_callvh hdl c0 (F sx) n J Q k ls st M → JW p l e R s m args below meth c nL D ca ad A (vx_MQ below (Qn D ca ad A Q) (Qx D ca ad A Q) args s mc ms A) gc gs true pc ls st M := by
  intro ls st M h H locs lsA hR hc hz hP hS ho hol hl
  unfold tx_callvh at h
  split at h
  · rename_i a as r hpop
    split at h
    · rename_i hcat
      obtain ⟨hob, h⟩ := h
      obtain ⟨hlen, hst⟩ := pop_st hpop
      obtain ⟨hoa, hor⟩ := ok_args hst ho
      have hr : vx_Run p l e R s m args below meth c H locs (gc pc) (gs pc) mc1 (6 * mc1) (F0 m pc lsA (st.map (vv ad))) (r.map (vv ad)) (Qn D ca ad A (afth J hdl Q k ls r) (Value.ref (ad a) :: as.map (vv ad)).toArray) (Qx D ca ad A (afth J hdl Q k ls r)) A := by
        refine vx_runV (cc := cc) (nL := nL) (Ts := GT) (own := own) (C := C) (As := as.map (vv ad)) (index := idx) (n := n) (b := ad a) (bytes := b) (maxL := nl) (ret := ret) ⟨C0.1, C0.2.1, C0.2.2.1, C0.2.2.2.1, C0.2.2.2.2.1⟩
          (hCt D ca ad sx sy A H.size (.inr (.inl a) :: as) M (afth J hdl Q k ls r) C0.2.2.2.2.2.2.2.1 C0.2.2.2.2.2.2.2.2.1 (fun q hq => C0.2.2.2.2.2.2.2.2.2.1 q (Nat.le_trans hS.1 hq)) hR hoa h)
          ⟨⟨rfl, rfl, hrm.1, hrm.2, hws_of C0 hcode, List.mem_cons_self, C0.2.2.2.2.1 _ hcode, C0.2.2.2.2.1 _ hini, hy, params_of hn, C0.2.2.2.2.1 _ hlink⟩, C0.2.2.2.2.1 _ hinst, C0.2.2.2.2.1 _ hsel⟩
          ⟨blind, recv_at C0 hcl hob hP, fun U hU hW => ⟨rfl, pcb_at C0 hE rfl hP hS hU hW⟩⟩ rfl ?_ hl.1 ?_ (cats_le (m := m) (pc := pc) hcat) hd hf
        · rw [List.length_map]
          simp at hlen
          exact hlen
        · show st.map (vv ad) = (as.map (vv ad)).reverse ++ .ref (ad a) :: r.map (vv ad)
          rw [hst]
          simp [vv]
      intro T hT X
      rcases hr T hT X with ⟨v, st₀, t, T', L, h0, X', hL, e1, e2, ⟨⟨o, M', hv, hp, hrg, hok, hP'⟩, hF⟩, st1⟩ | ⟨q, st₀, t, T', L, E, ce, h0, X', hL, e1, e2, ⟨⟨n', M', hE', hn', hp, hrg, hP'⟩, hF⟩, hce, hcv, hcl', st1⟩
      · obtain ⟨k1, k2, k3⟩ := vx_keep h0 e1 hS (fun _ _ h => h) (fun _ h => h) hL hF
        have hv' : v = o.map (vv ad) := Outcome.returned.inj hv
        subst hv'
        have hkk : k ls (o.toList ++ r) M' := by
          cases o with
          | none => exact hp
          | some w => exact hp
        have hst' : (o.map (vv ad)).toList ++ r.map (vv ad) = (o.toList ++ r).map (vv ad) := by
          cases o <;> rfl
        obtain ⟨t2, a1, b1⟩ := hk _ _ _ hkk T'.heap (locs ++ L) lsA hrg (Nat.le_refl _) (fun z => nomatch z) (by rw [e1]; exact hP') k3 (by
          intro w hw
          rcases List.mem_append.mp hw with h | h
          · exact hok w (by cases o with | none => cases h | some z => simp at h; rw [h])
          · exact hor w h) hol hl T' rfl (stand_widen X' hg.1 hg.2)
        refine ⟨t2, st1 t2 ?_, b1⟩
        rw [hst']
        exact a1
      · obtain ⟨k1, k2, k3⟩ := vx_keep h0 e1 hS (fun _ _ h => h) (fun _ h => h) hL hF
        have hg1 := hH n' hn'
        have hq : (match hdl n' with
          | some hp => ∀ a : Nat, J hp ls [.inr (.inr (.inr a))] M'
          | none => Q (.inr n') M') := hp
        subst hE'
        cases hdn : hdl n' with
        | some hp2 =>
          rw [hdn] at hq hg1
          obtain ⟨pre, x, suf, name, hsp, hpre, hcov, hx0, hlk, hcast, hhp, g1, g2⟩ := hg1
          subst hhp
          obtain ⟨t2, a1, b1⟩ := vx_catch (p := p) (l := l) (e := e) (R := R) (s := s) (m := m) (args := args) (below := below) (meth := meth) (c := c) (H := T'.heap) (locs := locs ++ L) (cells := gc pc + mc1) (slots := gs pc + 6 * mc1) (ls := lsA) (rest := r.map (vv ad)) (pc := pc) (own := own) (name := name) (E := enm n') (ce := ce) (q := q) C0.2.2.2.1 pre x suf (htb.trans hsp)
            (fun z hz => by
              rcases hpre z hz with h | ⟨h1, nm, h2, h3⟩
              · exact Or.inl h
              · exact Or.inr ⟨h1, nm, C0.2.2.2.2.1 _ h2, h3⟩) hcov hx0 (C0.2.2.2.2.1 _ hlk) (ft_before hE hcast rfl) (by rw [e1]; exact hce) hcv hcl'
            (W.widen g1 g2 (hj _ _ _ _ (hq q) T'.heap (locs ++ L) lsA hrg (Nat.le_refl _) (fun z => nomatch z) (by rw [e1]; exact hP') k3 (fun v hv => by
              simp at hv
              subst hv
              trivial) hol hl)) T' rfl X'
          exact ⟨t2, st1.trans a1, b1⟩
        | none =>
          rw [hdn] at hq hg1
          obtain ⟨t2, a1, b1⟩ := vx_outP (p := p) (l := l) (e := e) (R := R) (s := s) (m := m) (args := args) (below := below) (meth := meth) (c := c) (H := T'.heap) (locs := locs ++ L) (cells := gc pc + mc1) (slots := gs pc + 6 * mc1) (free := A) (ls := lsA) (rest := r.map (vv ad)) (Qc := Qn D ca ad A Q) (XC := Qx D ca ad A Q) (pc := pc) (own := own) (E := enm n') (ce := ce) (q := q) (mc := mc) (ms := ms) C0.2.2.2.1 C0.2.2.2.2.2.2.2.2.2.2
            (fun z hz => by
              rw [htb] at hz
              rcases hg1 z hz with h | ⟨h1, nm, h2, h3⟩
              · exact Or.inl h
              · exact Or.inr ⟨h1, nm, C0.2.2.2.2.1 _ h2, h3⟩) (by rw [e1]; exact hce) hcv hcl'
            (fun t3 ht3 _ => ⟨⟨n', M', rfl, hn', hq, hrg, by rw [ht3, e1]; exact hP'⟩, k3.F ht3⟩) k3.2.2 hmc.1 hmc.2 T' rfl X'
          exact ⟨t2, st1.trans a1, b1⟩
    · exact h.elim
  · exact h.elim
variable {e1 h1 h2 ms1 : Nat}
/-- IllegalArgumentException alone is caught -/
theorem goes_A (hE : EX sx sy A s s.heap) (hc : Nat.blt pc e1 = true) (hg : gc pc + mc1 ≤ gc h1 ∧ gs pc + ms1 ≤ gs h1) (w13 : Cond.classLink own 13 (enm 2) ∈ GT) (wc : Cond.castable (enm 2) (enm 2) ∈ FTW) : ∀ n, n = 1 ∨ n = 2 → hgoes s own (tableOf [(0, e1, h1, 13)]) pc gc gs mc1 ms1 n (hT none (some h1) n) := by
  intro n hn
  rcases hn with rfl | rfl
  · intro z hz
    have : z = ⟨0, e1, h1, 13⟩ := by simpa [tableOf] using hz
    subst this
    exact Or.inr ⟨Nat.succ_ne_zero _, enm 2, w13, hE.2.2.2.2.2.2.2.1⟩
  · refine ⟨[], ⟨0, e1, h1, 13⟩, [], enm 2, rfl, (fun z hz => absurd hz List.not_mem_nil), ?_, (show _ ≠ _ from Nat.succ_ne_zero _), w13, wc, rfl, hg.1, hg.2⟩
    have := Nat.le_of_ble_eq_true hc
    simp [covers]
    omega
theorem goes_B (hE : EX sx sy A s s.heap) (hc : Nat.blt pc e1 = true) (hg : gc pc + mc1 ≤ gc h1 ∧ gs pc + ms1 ≤ gs h1) (w25 : Cond.classLink own 25 (enm 1) ∈ GT) (wc : Cond.castable (enm 1) (enm 1) ∈ FTW) : ∀ n, n = 1 ∨ n = 2 → hgoes s own (tableOf [(0, e1, h1, 25)]) pc gc gs mc1 ms1 n (hT (some h1) none n) := by
  intro n hn
  rcases hn with rfl | rfl
  · refine ⟨[], ⟨0, e1, h1, 25⟩, [], enm 1, rfl, (fun z hz => absurd hz List.not_mem_nil), ?_, (show _ ≠ _ from Nat.succ_ne_zero _), w25, wc, rfl, hg.1, hg.2⟩
    have := Nat.le_of_ble_eq_true hc
    simp [covers]
    omega
  · intro z hz
    have : z = ⟨0, e1, h1, 25⟩ := by simpa [tableOf] using hz
    subst this
    exact Or.inr ⟨Nat.succ_ne_zero _, enm 1, w25, hE.2.2.2.2.2.2.2.2⟩
theorem goes_C (hE : EX sx sy A s s.heap) (hc : Nat.blt pc e1 = true) (hg1 : gc pc + mc1 ≤ gc h1 ∧ gs pc + ms1 ≤ gs h1) (hg2 : gc pc + mc1 ≤ gc h2 ∧ gs pc + ms1 ≤ gs h2) (w25 : Cond.classLink own 25 (enm 1) ∈ GT) (w13 : Cond.classLink own 13 (enm 2) ∈ GT) (wc1 : Cond.castable (enm 1) (enm 1) ∈ FTW) (wc2 : Cond.castable (enm 2) (enm 2) ∈ FTW) : ∀ n, n = 1 ∨ n = 2 → hgoes s own (tableOf [(0, e1, h1, 25), (0, e1, h2, 13)]) pc gc gs mc1 ms1 n (hT (some h1) (some h2) n) := by
  intro n hn
  have := Nat.le_of_ble_eq_true hc
  rcases hn with rfl | rfl
  · refine ⟨[], ⟨0, e1, h1, 25⟩, [⟨0, e1, h2, 13⟩], enm 1, rfl, (fun z hz => absurd hz List.not_mem_nil), ?_, (show _ ≠ _ from Nat.succ_ne_zero _), w25, wc1, rfl, hg1.1, hg1.2⟩
    simp [covers]
    omega
  · refine ⟨[⟨0, e1, h1, 25⟩], ⟨0, e1, h2, 13⟩, [], enm 2, rfl, (fun z hz => ?_), ?_, (show _ ≠ _ from Nat.succ_ne_zero _), w13, wc2, rfl, hg2.1, hg2.2⟩
    · have : z = ⟨0, e1, h1, 25⟩ := by simpa using hz
      subst this
      exact Or.inr ⟨Nat.succ_ne_zero _, enm 1, w25, hE.2.2.2.2.2.2.2.2⟩
    · simp [covers]
      omega
theorem s_callSH (C0 : CX p s m args meth c cc nL own D ca ad A) (hE : EX sx sy A s s.heap) (hCt : CtrH l y b nl ret hh fr lc mc1 F) (hcode : Cond.codeWith y b nl ret hh ∈ GT) (hlink : Cond.methodLink own idx y ∈ GT) (hstat : Cond.static y ∈ GT) (hini : Cond.initialized y.cls ∈ GT) (hy : y.cls ≠ "java/lang/invoke/MethodHandle" ∧ y.cls ≠ "java/lang/invoke/VarHandle") (hn : (parseMethodDescriptor y.desc).map (fun d => d.parameters.length) = some n)
    (hrm : fr + 1 ≤ R.frames ∧ 8 + (nl + 11) + lc ≤ R.locals) (hf : gc pc + mc1 ≤ R.cells ∧ gs pc + 6 * mc1 ≤ R.slots) (hd : decode cc pc = .ok (.invokestatic idx, 3)) (hout : ∀ x ∈ c.exceptionTable.toList, covers x pc = false)
    (hg : gc pc + mc1 ≤ gc (pc + 3) ∧ gs pc + 6 * mc1 ≤ gs (pc + 3)) (hmc : gc pc + mc1 ≤ mc ∧ gs pc + 6 * mc1 ≤ ms)
    (hk : ∀ ls st M, k ls st M → JW p l e R s m args below meth c nL D ca ad A (vx_MQ below (Qn D ca ad A Q) (Qx D ca ad A Q) args s mc ms A) gc gs true (pc + 3) ls st M) :
    ∀ ls st M, tx_call (F sx) n J Q k ls st M → JW p l e R s m args below meth c nL D ca ad A (vx_MQ below (Qn D ca ad A Q) (Qx D ca ad A Q) args s mc ms A) gc gs true pc ls st M := by
  intro ls st M h H locs lsA hR hc hz hP hS ho hol hl
  unfold tx_call at h
  split at h
  · rename_i as r hpop
    split at h
    · rename_i hcat
      obtain ⟨hlen, hst⟩ := pop_st hpop
      obtain ⟨hoa, hor⟩ := ok_args hst ho
      refine s_after (mc1 := mc1) (ms1 := 6 * mc1) (r := r) (a := (as.map (vv ad)).toArray) C0.2.2.2.2.2.2.2.2.2.2 hout C0.2.2.2.2.2.2.2.2.2.1 hg hmc hS hor hol hl hk ?_
      refine vx_runSX (cc := cc) (nL := nL) (Ts := GT) (own := own) (As := as.map (vv ad)) (index := idx) (n := n) (bytes := b) (maxL := nl) (ret := ret) (hh := hh) ⟨C0.1, C0.2.1, C0.2.2.1, C0.2.2.2.1, C0.2.2.2.2.1⟩
        (hCt D ca ad sx sy A H.size as M (aft Q k ls r) C0.2.2.2.2.2.2.2.1 C0.2.2.2.2.2.2.2.2.1 (fun q hq => C0.2.2.2.2.2.2.2.2.2.1 q (Nat.le_trans hS.1 hq)) hR hoa h)
        ⟨⟨rfl, rfl, hrm.1, hrm.2, pay_in C0.2.2.2.2.1 (fun w hw => by
          rcases List.mem_cons.mp hw with rfl | hw
          · exact gt_good _ hcode
          · exact gt_good _ hw), List.mem_cons_self⟩, C0.2.2.2.2.1 _ hcode, C0.2.2.2.2.1 _ hini, hy, params_of hn, C0.2.2.2.2.1 _ hlink, C0.2.2.2.2.1 _ hstat⟩
        ⟨blind, fun U hU hW => ⟨rfl, pcb_at C0 hE rfl hP hS hU hW⟩⟩ rfl ?_ hl.1 ?_ (cats_le (m := m) (pc := pc) hcat) hd hf
      · rw [List.length_map]
        exact hlen
      · show st.map (vv ad) = (as.map (vv ad)).reverse ++ r.map (vv ad)
        rw [hst]
        simp
    · exact h.elim
  · exact h.elim
end Catch
theorem fc1 : Cond.castable (enm 1) (enm 1) ∈ FTW := ft_list [Cond.castable (enm 1) (enm 1)] [938] (by decide +kernel) (by decide +kernel) _ List.mem_cons_self
theorem fc2 : Cond.castable (enm 2) (enm 2) ∈ FTW := ft_list [Cond.castable (enm 2) (enm 2)] [686] (by decide +kernel) (by decide +kernel) _ List.mem_cons_self
