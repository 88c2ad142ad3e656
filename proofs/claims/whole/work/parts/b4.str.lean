--BLTRUE
section Str
variable {p : Program} {l : Launch} {e : Env} {R : Room} {s : State} {m : MethodId} {args : Array Value} {below : List Frame} {meth : Method} {c : Code} {cc : ByteArray} {nL : Nat} {own : String} {D : va_G} {ca : Nat → ClassId} {ad : Nat → Nat} {A : Nat → Prop} {Qf : State → Prop} {gc gs : Nat → Nat} {bl : Bool}
variable {J : JT} {Q : QT} {k : Kt} {pc nx : Nat}
variable {sx sy : Nat → Nat} {mc ms : Nat}
theorem sc_len : ∀ i, i < 7 → slen.getD i 0 = (strC i).length := by decide +kernel
theorem sc_len8 : ∀ i, i < 7 → (strC i).length < 8 := by decide +kernel
theorem sc_byt8 : ∀ i, i < 7 → ∀ j, j < 8 → (sbyt.getD i []).getD j 0 = Int32.ofInt (((strC i).getD j 0 : Nat) : Int) := by decide +kernel
theorem sc_lt8 : ∀ i, i < 7 → ∀ j, j < 8 → (strC i).getD j 0 < 128 := by decide +kernel
theorem sc_byt {i j : Nat} (hi : i < 7) (hj : j < (strC i).length) : (sbyt.getD i []).getD j 0 = Int32.ofInt (((strC i).getD j 0 : Nat) : Int) := sc_byt8 i hi j (Nat.lt_trans hj (sc_len8 i hi))
theorem sc_lt {i j : Nat} (hi : i < 7) (hj : j < (strC i).length) : (strC i).getD j 0 < 128 := sc_lt8 i hi j (Nat.lt_trans hj (sc_len8 i hi))
theorem ch_narrow : ∀ n : Nat, n < 128 → narrow .char (.int (Int32.ofInt (n : Int))) = .int (Int32.ofInt (n : Int)) ∧ narrow .byte (.int (Int32.ofInt (n : Int))) = .int (Int32.ofInt (n : Int)) ∧ ((Int32.ofInt (n : Int)).toUInt32 % 65536).toInt32 = Int32.ofInt (n : Int) := by decide +kernel
theorem ch_and : ∀ n : Nat, n < 128 → andI (n : Int) 255 = (n : Int) := by decide +kernel
def tx_sco (sx : Nat → Nat) : AT := fun _ _ k ls st M => match st with
  | .inr (.inr (.inr a)) :: st => (∃ i, i < 7 ∧ a = sx i) ∧ k ls (.inl 0 :: st) M
  | _ => False
def tx_sva (sx sy : Nat → Nat) : AT := fun _ _ k ls st M => match st with
  | .inr (.inr (.inr a)) :: st => ∃ i, i < 7 ∧ a = sx i ∧ k ls (.inr (.inr (.inr (sy i))) :: st) M
  | _ => False
def tx_sal (sy : Nat → Nat) : AT := fun _ _ k ls st M => match st with
  | .inr (.inr (.inr a)) :: st => ∃ i, i < 7 ∧ a = sy i ∧ k ls (.inl ((strC i).length : Int) :: st) M
  | _ => False
def tx_sba (sy : Nat → Nat) : AT := fun _ _ k ls st M => match st with
  | .inl j :: .inr (.inr (.inr a)) :: st => ∃ i, i < 7 ∧ a = sy i ∧ (0 ≤ j ∧ j < ((strC i).length : Int)) ∧ k ls (.inl (((strC i).getD j.toNat 0 : Nat) : Int) :: st) M
  | _ => False
def tx_i2c : AT := fun _ _ k ls st M => match st with
  | .inl x :: st => (0 ≤ x ∧ x < 128) ∧ k ls (.inl x :: st) M
  | _ => False
def tx_pop : AT := fun _ _ k ls st M => match st with
  | .inl _ :: st => k ls st M
  | _ => False
def tx_rx : AT := fun _ Q _ _ st M => match st with
  | [.inl x] => (0 ≤ x ∧ x < 128) ∧ Q (.inl (some (.inl x))) M
  | _ => False
theorem s_cs (C0 : CX p s m args meth c cc nL own D ca ad A) (hE : EX sx sy A s s.heap) {idx : Nat} (hw : Cond.fieldLink own idx "java/lang/String" "COMPACT_STRINGS" "Z" ∈ GT) (hd : decode cc pc = .ok (.getstatic idx, 3)) (hg : gc pc ≤ gc (pc + 3) ∧ gs pc ≤ gs (pc + 3)) (hk : ∀ ls st M, k ls st M → JW p l e R s m args below meth c nL D ca ad A Qf gc gs true (pc + 3) ls st M) : ∀ ls st M, tx_ic 1 J Q k ls st M → JW p l e R s m args below meth c nL D ca ad A Qf gc gs true pc ls st M := by
  intro ls st M h H locs lsA hR hc hz hP hS ho hol hl
  exact va_gets C0.1 C0.2.1 hE.2.2.1 hS C0.2.2.2.1 (C0.2.2.2.2.1 _ hw) (fun x hx => hx) hd (W.widen hg.1 hg.2 (hk _ _ _ h H locs lsA hR hc hz hP hS (okc (v := .inl 1) (okn rfl) ho) hol hl))
theorem s_sco (C0 : CX p s m args meth c cc nL own D ca ad A) (hE : EX sx sy A s s.heap) {idx : Nat} (hw : Cond.fieldLink own idx "java/lang/String" "coder" "B" ∈ GT) (hd : decode cc pc = .ok (.getfield idx, 3)) (hg : gc pc ≤ gc (pc + 3) ∧ gs pc ≤ gs (pc + 3)) (hk : ∀ ls st M, k ls st M → JW p l e R s m args below meth c nL D ca ad A Qf gc gs true (pc + 3) ls st M) : ∀ ls st M, tx_sco sx J Q k ls st M → JW p l e R s m args below meth c nL D ca ad A Qf gc gs true pc ls st M := by
  intro ls st M h H locs lsA hR hc hz hP hS ho hol hl
  unfold tx_sco at h
  split at h
  · rename_i a st
    obtain ⟨⟨i, hi, rfl⟩, h⟩ := h
    exact vk_getf C0.1 C0.2.1 (hE.2.2.2.1.1 i hi).2.1 hS C0.2.2.2.1 (C0.2.2.2.2.1 _ hw) (fun x hx => hx) hd (W.widen hg.1 hg.2 (hk _ _ _ h H locs lsA hR hc hz hP hS (okc (v := .inl 0) (okn rfl) (okt ho)) hol hl))
  · exact h.elim
theorem s_sva (C0 : CX p s m args meth c cc nL own D ca ad A) (hE : EX sx sy A s s.heap) {idx : Nat} (hw : Cond.fieldLink own idx "java/lang/String" "value" "[B" ∈ GT) (hd : decode cc pc = .ok (.getfield idx, 3)) (hg : gc pc ≤ gc (pc + 3) ∧ gs pc ≤ gs (pc + 3)) (hk : ∀ ls st M, k ls st M → JW p l e R s m args below meth c nL D ca ad A Qf gc gs true (pc + 3) ls st M) : ∀ ls st M, tx_sva sx sy J Q k ls st M → JW p l e R s m args below meth c nL D ca ad A Qf gc gs true pc ls st M := by
  intro ls st M h H locs lsA hR hc hz hP hS ho hol hl
  unfold tx_sva at h
  split at h
  · rename_i a st
    obtain ⟨i, hi, rfl, h⟩ := h
    exact vk_getf C0.1 C0.2.1 (hE.2.2.2.1.1 i hi).2.2.1 hS C0.2.2.2.1 (C0.2.2.2.2.1 _ hw) (fun x hx => hx) hd (W.widen hg.1 hg.2 (hk _ _ _ h H locs lsA hR hc hz hP hS (okc (v := .inr (.inr (.inr (sy i)))) trivial (okt ho)) hol hl))
  · exact h.elim
theorem len_ok {i : Nat} (hi : i < 7) : okI ((strC i).length : Int) := by
  have := sc_len8 i hi
  unfold okI
  omega
theorem chr_ok {i j : Nat} (hi : i < 7) (hj : j < (strC i).length) : okI (((strC i).getD j 0 : Nat) : Int) := by
  have := sc_lt hi hj
  unfold okI
  omega
theorem s_sal (C0 : CX p s m args meth c cc nL own D ca ad A) (hE : EX sx sy A s s.heap) (hd : decode cc pc = .ok (.arraylength, 1)) (hg : gc pc ≤ gc (pc + 1) ∧ gs pc ≤ gs (pc + 1)) (hk : ∀ ls st M, k ls st M → JW p l e R s m args below meth c nL D ca ad A Qf gc gs true (pc + 1) ls st M) : ∀ ls st M, tx_sal sy J Q k ls st M → JW p l e R s m args below meth c nL D ca ad A Qf gc gs true pc ls st M := by
  intro ls st M h H locs lsA hR hc hz hP hS ho hol hl
  unfold tx_sal at h
  split at h
  · rename_i a st
    obtain ⟨i, hi, rfl, h⟩ := h
    exact va_tlen C0.1 C0.2.1 (hE.2.2.2.1.1 i hi).2.2.2 hS (v := Int32.ofInt ((strC i).length : Int)) (by rw [sc_len i hi]; exact ofNat_ofInt _) hd (W.widen hg.1 hg.2 (hk _ _ _ h H locs lsA hR hc hz hP hS (okc (v := .inl ((strC i).length : Int)) (len_ok hi) (okt ho)) hol hl))
  · exact h.elim
theorem s_sba (C0 : CX p s m args meth c cc nL own D ca ad A) (hE : EX sx sy A s s.heap) (hd : decode cc pc = .ok (.baload, 1)) (hg : gc pc ≤ gc (pc + 1) ∧ gs pc ≤ gs (pc + 1)) (hk : ∀ ls st M, k ls st M → JW p l e R s m args below meth c nL D ca ad A Qf gc gs true (pc + 1) ls st M) : ∀ ls st M, tx_sba sy J Q k ls st M → JW p l e R s m args below meth c nL D ca ad A Qf gc gs true pc ls st M := by
  intro ls st M h H locs lsA hR hc hz hP hS ho hol hl
  unfold tx_sba at h
  split at h
  · rename_i j a st
    obtain ⟨i, hi, rfl, ⟨j0, j1⟩, h⟩ := h
    have oj : okI j := okh ho
    have hjn : j.toNat < (strC i).length := by omega
    exact va_tb C0.1 C0.2.1 (hE.2.2.2.1.1 i hi).2.2.2 hS (in_of oj j0 (by rw [sc_len i hi]; exact j1)) (v := .int (Int32.ofInt (((strC i).getD j.toNat 0 : Nat) : Int))) (by rw [cl_of oj, sc_byt hi hjn]) hd (W.widen hg.1 hg.2 (hk _ _ _ h H locs lsA hR hc hz hP hS (okc (v := .inl (((strC i).getD j.toNat 0 : Nat) : Int)) (chr_ok hi hjn) (okt (okt ho))) hol hl))
  · exact h.elim
theorem s_i2c (C0 : CX p s m args meth c cc nL own D ca ad A) (hd : decode cc pc = .ok (.i2c, 1)) (hg : gc pc ≤ gc (pc + 1) ∧ gs pc ≤ gs (pc + 1)) (hk : ∀ ls st M, k ls st M → JW p l e R s m args below meth c nL D ca ad A Qf gc gs true (pc + 1) ls st M) : ∀ ls st M, tx_i2c J Q k ls st M → JW p l e R s m args below meth c nL D ca ad A Qf gc gs true pc ls st M := by
  intro ls st M h H locs lsA hR hc hz hP hS ho hol hl
  unfold tx_i2c at h
  split at h
  · rename_i x st
    obtain ⟨⟨x0, x1⟩, h⟩ := h
    have e : x = ((x.toNat : Nat) : Int) := by omega
    refine lv_i2c C0.1 C0.2.1 (v := Int32.ofInt x) hd ?_ (W.widen hg.1 hg.2 (hk _ _ _ h H locs lsA hR hc hz hP hS ho hol hl))
    rw [e]
    exact (ch_narrow x.toNat (by omega)).2.2
  · exact h.elim
theorem s_pop (C0 : CX p s m args meth c cc nL own D ca ad A) (hd : decode cc pc = .ok (.pop, 1)) (hg : gc pc ≤ gc (pc + 1) ∧ gs pc ≤ gs (pc + 1)) (hk : ∀ ls st M, k ls st M → JW p l e R s m args below meth c nL D ca ad A Qf gc gs true (pc + 1) ls st M) : ∀ ls st M, tx_pop J Q k ls st M → JW p l e R s m args below meth c nL D ca ad A Qf gc gs true pc ls st M := by
  intro ls st M h H locs lsA hR hc hz hP hS ho hol hl
  unfold tx_pop at h
  split at h
  · rename_i x st
    exact lv_pop C0.1 C0.2.1 hd rfl (W.widen hg.1 hg.2 (hk _ _ _ h H locs lsA hR hc hz hP hS (okt ho) hol hl))
  · exact h.elim
theorem s_rx (C0 : CX p s m args meth c cc nL own D ca ad A) {ty : FieldType} (hty : ty = .char ∨ ty = .byte) (hr : meth.sig.returnType = some ty) (hd : decode cc pc = .ok (.ireturn, 1)) (hm : gc pc ≤ mc ∧ gs pc ≤ ms) :
    ∀ ls st M, tx_rx J Q k ls st M → JW p l e R s m args below meth c nL D ca ad A (vx_MQ below (Qn D ca ad A Q) (Qx D ca ad A Q) args s mc ms A) gc gs true pc ls st M := by
  intro ls st M h H locs lsA hR hc hz hP hS ho hol hl
  unfold tx_rx at h
  split at h
  · rename_i x
    obtain ⟨⟨x0, x1⟩, h⟩ := h
    have e : x = ((x.toNat : Nat) : Int) := by omega
    refine vx_ret (W.widen hm.1 hm.2 (W.zret C0.1 C0.2.1 hr ?_ (q_ret (x := some (.inl x)) rfl h hR (fun v hv => by cases hv; exact okh ho) hP hS) hS.2.2 hd C0.2.2.2.2.2.2.2.2.2.2))
    rw [e]
    rcases hty with rfl | rfl
    · exact (ch_narrow x.toNat (by omega)).1
    · exact (ch_narrow x.toNat (by omega)).2.1
  · exact h.elim
/-- a contract that may speak of the string constants' rows -/
def Ctr2 (l : Launch) (y : MethodName) (b : ByteArray) (nl : Nat) (ret : Option FieldType) (fr lc : Nat) (F : (Nat → Nat) → (Nat → Nat) → FT) : Prop :=
  ∀ (D : va_G) (ca : Nat → ClassId) (ad sx sy : Nat → Nat) (A : Nat → Prop) (sz : Nat) (as : List Vl) (M : Mem) (post : QT), injA ad → (∀ k, k < 337 → A (ad k)) → (∀ q, sz ≤ q → A q) → rng M → (∀ v ∈ as, okv v) → F sx sy as M post →
    vx_Met l y (.code y b nl ret :: GT) { frames := fr, cells := 0, slots := 6 * 0, locals := lc } (va_Pc (as.map (vv ad)) (PcB D ca ad sx sy A sz M)) (Qn D ca ad A post) (Qx D ca ad A post) 0 (6 * 0) A
variable {y : MethodName} {b : ByteArray} {nl fr lc idx n : Nat} {ret : Option FieldType}
theorem ctr2_of {F : (Nat → Nat) → (Nat → Nat) → FT} (hy : plainName y.cls = true)
    (body : ∀ (p : Program) (e : Env) (s : State) (m : MethodId) (args : Array Value) (below : List Frame) (meth : Method) (c : Code) (D : va_G) (ca : Nat → ClassId) (ad sx sy : Nat → Nat) (A : Nat → Prop) (Q : QT) (as : List Vl) (M : Mem), CX p s m args meth c b nl y.cls D ca ad A → EX sx sy A s s.heap → meth.sig.returnType = ret → (∀ x ∈ c.exceptionTable.toList, False) → F sx sy as M Q →
      (enL as).length ≤ nl ∧ JW p l e { frames := fr, cells := 0, slots := 6 * 0, locals := lc } s m args below meth c nl D ca ad A (vx_MQ below (Qn D ca ad A Q) (Qx D ca ad A Q) args s 0 (6 * 0) A) gz gz true 0 (padL nl (enL as)) [] M) : Ctr2 l y b nl ret fr lc F := by
  intro D ca ad sx sy A sz as M post hinj hA hsz hR hoa hF
  refine vx_ofW (cc := b) (maxL := nl) (ret := ret) hy rfl ?_
  intro p e s m args below meth c s₁ B hml hno hv
  obtain ⟨rfl, hz, hP, ⟨hK, hN⟩, hE⟩ := hv
  have hts := atoms_spec (ws := Cond.code y b nl ret :: GT) B.pre
  have C0 : CX p s m ((as.map (vv ad)).toArray) meth c b nl y.cls D ca ad A := ⟨B.exec, B.bytes, hml, findClass_of_methodNamed B.named, fun w hw => hts w (List.mem_cons_of_mem _ hw), hN, hK, hinj, hA, fun q hq => hsz q (by omega), B.notSynchronized⟩
  obtain ⟨hlen, hJ⟩ := body p e s m _ below meth c D ca ad sx sy A post as M C0 hE B.returns hno hF
  rw [lg_entry_eq]
  exact hJ s.heap [] _ hR (Nat.le_refl _) (fun q => nomatch q) hP va_S.rf (fun v hv => by cases hv) (pad_ok (enL_ok hoa)) (entry_lvA hlen)
def tx_callo (sx : Nat → Nat) (F : FT) (n : Nat) : AT := fun _ Q k ls st M => match popn (n + 1) st [] with
  | some (.inr (.inr (.inr a)) :: as, r) => (match Nat.ble (cats r) 8 with
    | true => (∃ i, i < 7 ∧ a = sx i) ∧ F (.inr (.inr (.inr a)) :: as) M (aft Q k ls r)
    | false => False)
  | _ => False
theorem s_callo (C0 : CX p s m args meth c cc nL own D ca ad A) (hE : EX sx sy A s s.heap) {F : (Nat → Nat) → (Nat → Nat) → FT} (hCt : Ctr2 l y b nl ret fr lc F) (hcode : Cond.code y b nl ret ∈ GT) (hlink : Cond.methodLink own idx y ∈ GT) (hinst : Cond.instanceMethod y ∈ GT) (hsel : Cond.selects "java/lang/String" y y ∈ GT) (hini : Cond.initialized y.cls ∈ GT) (hy : y.cls ≠ "java/lang/invoke/MethodHandle" ∧ y.cls ≠ "java/lang/invoke/VarHandle") (hn : (parseMethodDescriptor y.desc).map (fun d => d.parameters.length) = some n)
    (hrm : fr + 1 ≤ R.frames ∧ 8 + (nl + 11) + lc ≤ R.locals) (hf : gc pc + 0 ≤ R.cells ∧ gs pc + 6 * 0 ≤ R.slots) (hd : decode cc pc = .ok (.invokevirtual idx, 3)) (hout : ∀ x ∈ c.exceptionTable.toList, covers x pc = false)
    (hg : gc pc + 0 ≤ gc (pc + 3) ∧ gs pc + 6 * 0 ≤ gs (pc + 3)) (hmc : gc pc + 0 ≤ mc ∧ gs pc + 6 * 0 ≤ ms)
    (hk : ∀ ls st M, k ls st M → JW p l e R s m args below meth c nL D ca ad A (vx_MQ below (Qn D ca ad A Q) (Qx D ca ad A Q) args s mc ms A) gc gs true (pc + 3) ls st M) :
    ∀ ls st M, tx_callo sx (F sx sy) n J Q k ls st M → JW p l e R s m args below meth c nL D ca ad A (vx_MQ below (Qn D ca ad A Q) (Qx D ca ad A Q) args s mc ms A) gc gs true pc ls st M := by
  intro ls st M h H locs lsA hR hc hz hP hS ho hol hl
  unfold tx_callo at h
  split at h
  · rename_i a as r hpop
    split at h
    · rename_i hcat
      obtain ⟨⟨i, hi, ha⟩, h⟩ := h
      obtain ⟨hlen, hst⟩ := pop_st hpop
      obtain ⟨hoa, hor⟩ := ok_args hst ho
      refine s_after (mc1 := 0) (ms1 := 6 * 0) (r := r) (a := (Value.ref a :: as.map (vv ad)).toArray) C0.2.2.2.2.2.2.2.2.2.2 hout C0.2.2.2.2.2.2.2.2.2.1 hg hmc hS hor hol hl hk ?_
      refine vx_runV (cc := cc) (nL := nL) (Ts := GT) (own := own) (C := "java/lang/String") (As := as.map (vv ad)) (index := idx) (n := n) (b := a) (bytes := b) (maxL := nl) (ret := ret) ⟨C0.1, C0.2.1, C0.2.2.1, C0.2.2.2.1, C0.2.2.2.2.1⟩
        (hCt D ca ad sx sy A H.size (.inr (.inr (.inr a)) :: as) M (aft Q k ls r) C0.2.2.2.2.2.2.2.1 C0.2.2.2.2.2.2.2.2.1 (fun q hq => C0.2.2.2.2.2.2.2.2.2.1 q (Nat.le_trans hS.1 hq)) hR hoa h)
        ⟨⟨rfl, rfl, hrm.1, hrm.2, hws_of C0 hcode, List.mem_cons_self, C0.2.2.2.2.1 _ hcode, C0.2.2.2.2.1 _ hini, hy, params_of hn, C0.2.2.2.2.1 _ hlink⟩, C0.2.2.2.2.1 _ hinst, C0.2.2.2.2.1 _ hsel⟩
        ⟨blind, by rw [ha]; exact vk_recv hE.2.2.2.1 hi hS, fun U hU hW => ⟨rfl, pcb_at C0 hE rfl hP hS hU hW⟩⟩ rfl ?_ hl.1 ?_ (cats_le (m := m) (pc := pc) hcat) hd hf
      · rw [List.length_map]
        simp at hlen
        exact hlen
      · show st.map (vv ad) = (as.map (vv ad)).reverse ++ .ref a :: r.map (vv ad)
        rw [hst]
        simp [vv]
    · exact h.elim
  · exact h.elim
theorem s_callS2 (C0 : CX p s m args meth c cc nL own D ca ad A) (hE : EX sx sy A s s.heap) {F : (Nat → Nat) → (Nat → Nat) → FT} (hCt : Ctr2 l y b nl ret fr lc F) (hcode : Cond.code y b nl ret ∈ GT) (hlink : Cond.methodLink own idx y ∈ GT) (hstat : Cond.static y ∈ GT) (hini : Cond.initialized y.cls ∈ GT) (hy : y.cls ≠ "java/lang/invoke/MethodHandle" ∧ y.cls ≠ "java/lang/invoke/VarHandle") (hn : (parseMethodDescriptor y.desc).map (fun d => d.parameters.length) = some n)
    (hrm : fr + 1 ≤ R.frames ∧ 8 + (nl + 11) + lc ≤ R.locals) (hf : gc pc + 0 ≤ R.cells ∧ gs pc + 6 * 0 ≤ R.slots) (hd : decode cc pc = .ok (.invokestatic idx, 3)) (hout : ∀ x ∈ c.exceptionTable.toList, covers x pc = false)
    (hg : gc pc + 0 ≤ gc (pc + 3) ∧ gs pc + 6 * 0 ≤ gs (pc + 3)) (hmc : gc pc + 0 ≤ mc ∧ gs pc + 6 * 0 ≤ ms)
    (hk : ∀ ls st M, k ls st M → JW p l e R s m args below meth c nL D ca ad A (vx_MQ below (Qn D ca ad A Q) (Qx D ca ad A Q) args s mc ms A) gc gs true (pc + 3) ls st M) :
    ∀ ls st M, tx_call (F sx sy) n J Q k ls st M → JW p l e R s m args below meth c nL D ca ad A (vx_MQ below (Qn D ca ad A Q) (Qx D ca ad A Q) args s mc ms A) gc gs true pc ls st M := by
  intro ls st M h H locs lsA hR hc hz hP hS ho hol hl
  unfold tx_call at h
  split at h
  · rename_i as r hpop
    split at h
    · rename_i hcat
      obtain ⟨hlen, hst⟩ := pop_st hpop
      obtain ⟨hoa, hor⟩ := ok_args hst ho
      refine s_after (mc1 := 0) (ms1 := 6 * 0) (r := r) (a := (as.map (vv ad)).toArray) C0.2.2.2.2.2.2.2.2.2.2 hout C0.2.2.2.2.2.2.2.2.2.1 hg hmc hS hor hol hl hk ?_
      refine vx_runS (cc := cc) (nL := nL) (Ts := GT) (own := own) (As := as.map (vv ad)) (index := idx) (n := n) (bytes := b) (maxL := nl) (ret := ret) ⟨C0.1, C0.2.1, C0.2.2.1, C0.2.2.2.1, C0.2.2.2.2.1⟩
        (hCt D ca ad sx sy A H.size as M (aft Q k ls r) C0.2.2.2.2.2.2.2.1 C0.2.2.2.2.2.2.2.2.1 (fun q hq => C0.2.2.2.2.2.2.2.2.2.1 q (Nat.le_trans hS.1 hq)) hR hoa h)
        ⟨⟨rfl, rfl, hrm.1, hrm.2, hws_of C0 hcode, List.mem_cons_self, C0.2.2.2.2.1 _ hcode, C0.2.2.2.2.1 _ hini, hy, params_of hn, C0.2.2.2.2.1 _ hlink⟩, C0.2.2.2.2.1 _ hstat⟩
        ⟨blind, fun U hU hW => ⟨rfl, pcb_at C0 hE rfl hP hS hU hW⟩⟩ rfl ?_ hl.1 ?_ (cats_le (m := m) (pc := pc) hcat) hd hf
      · rw [List.length_map]
        exact hlen
      · show st.map (vv ad) = (as.map (vv ad)).reverse ++ r.map (vv ad)
        rw [hst]
        simp
    · exact h.elim
  · exact h.elim
/-- Preconditions.checkIndex, whatever its third argument -/
def Ctr3 (l : Launch) (y : MethodName) (b : ByteArray) (fr lc : Nat) : Prop :=
  ∀ (D : va_G) (ca : Nat → ClassId) (ad sx sy : Nat → Nat) (A : Nat → Prop) (sz : Nat) (j n : Int) (v : Value) (M : Mem) (post : QT), injA ad → (∀ k, k < 337 → A (ad k)) → (∀ q, sz ≤ q → A q) → rng M → okI j → okI n → (v = .null ∨ ∃ t, v = .ref t) → 0 ≤ j → j < n → post (.inl (some (vI j))) M →
    vx_Met l y (.code y b 3 (some .int) :: GT) { frames := fr, cells := 0, slots := 6 * 0, locals := lc } (va_Pc [.int (Int32.ofInt j), .int (Int32.ofInt n), v] (PcB D ca ad sx sy A sz M)) (Qn D ca ad A post) (Qx D ca ad A post) 0 (6 * 0) A
theorem ctr3_of (hy : plainName y.cls = true) (d0 : decode b 0 = .ok (.iload_n 0, 1)) (d1 : decode b 1 = .ok (.ifCond .lt 8, 3)) (d4 : decode b 4 = .ok (.iload_n 0, 1)) (d5 : decode b 5 = .ok (.iload_n 1, 1)) (d6 : decode b 6 = .ok (.if_icmp .lt 10, 3)) (d16 : decode b 16 = .ok (.iload_n 0, 1)) (d17 : decode b 17 = .ok (.ireturn, 1)) : Ctr3 l y b fr lc := by
  intro D ca ad sx sy A sz j n v M post hinj hA hsz hR oj on hv1 j0 j1 hp
  refine vx_ofW (cc := b) (maxL := 3) (ret := some .int) hy rfl ?_
  intro p e s m args below meth c s₁ B hml hno hv
  obtain ⟨rfl, hz, hP, ⟨hK, hN⟩, hE⟩ := hv
  have hts := atoms_spec (ws := Cond.code y b 3 (some .int) :: GT) B.pre
  have C0 : CX p s m (([.int (Int32.ofInt j), .int (Int32.ofInt n), v] : List Value).toArray) meth c b 3 y.cls D ca ad A := ⟨B.exec, B.bytes, hml, findClass_of_methodNamed B.named, fun w hw => hts w (List.mem_cons_of_mem _ hw), hN, hK, hinj, hA, fun q hq => hsz q (by omega), B.notSynchronized⟩
  have hr := B.returns
  have h16 : ∀ ls st M, wpl (fun _ _ _ _ => False) post [tx_il 0, tx_ri] ls st M → JW p l e { frames := fr, cells := 0, slots := 6 * 0, locals := lc } s m (([.int (Int32.ofInt j), .int (Int32.ofInt n), v] : List Value).toArray) below meth c 3 D ca ad A (vx_MQ below (Qn D ca ad A post) (Qx D ca ad A post) (([.int (Int32.ofInt j), .int (Int32.ofInt n), v] : List Value).toArray) s 0 (6 * 0) A) gz gz true 16 ls st M :=
    s_iln C0 d16 hgz (s_ri C0 hr d17 ⟨Nat.le_refl _, Nat.le_refl _⟩)
  have h0 : ∀ ls st M, wpl (fun pc ls st M => pc = 16 ∧ wpl (fun _ _ _ _ => False) post [tx_il 0, tx_ri] ls st M) post [tx_il 0, tx_ifz r_lt 9, tx_il 0, tx_il 1, tx_cmp r_lt 16, tx_fall 9] ls st M → JW p l e { frames := fr, cells := 0, slots := 6 * 0, locals := lc } s m (([.int (Int32.ofInt j), .int (Int32.ofInt n), v] : List Value).toArray) below meth c 3 D ca ad A (vx_MQ below (Qn D ca ad A post) (Qx D ca ad A post) (([.int (Int32.ofInt j), .int (Int32.ofInt n), v] : List Value).toArray) s 0 (6 * 0) A) gz gz true 0 ls st M :=
    s_iln C0 d0 hgz (s_zlt C0 d1 (by decide) hgz hgz (fun _ _ _ h => absurd h.1 (by decide)) (s_iln C0 d4 hgz (s_iln C0 d5 hgz (s_clt C0 d6 (by decide) hgz hgz (fun ls st M h => h16 ls st M h.2) (fun ls st M h => absurd h.1 (by decide))))))
  have hen := lv_entry ([.int (Int32.ofInt j), .int (Int32.ofInt n), v] : List Value) (n := 3) (by
    rcases hv1 with rfl | ⟨t, rfl⟩
    · exact Nat.le_of_ble_eq_true rfl
    · exact Nat.le_of_ble_eq_true rfl)
  rw [lg_entry_eq]
  refine h0 [some (vI j), some (vI n), none] [] M ?_ s.heap [] _ hR (Nat.le_refl _) (fun q => nomatch q) hP va_S.rf (fun v hv => by cases hv) ?_ ?_
  · exact ⟨fun g => absurd (show j < 0 from g) (by omega), fun _ => ⟨fun _ => ⟨rfl, hp⟩, fun g => absurd (show j < n from j1) g⟩⟩
  · intro w hw
    simp at hw
    rcases hw with rfl | rfl
    · exact oj
    · exact on
  · refine ⟨hen.1, hen.2.1, rfl, fun i w hw => ?_⟩
    match i, hw with
    | 0, hw =>
      have : vI j = w := by simpa [nth] using hw
      subst this
      exact hen.2.2 (0, .int (Int32.ofInt j)) (by simp [lv_args])
    | 1, hw =>
      have : vI n = w := by simpa [nth] using hw
      subst this
      exact hen.2.2 (1, .int (Int32.ofInt n)) (by simp [lv_args, Value.category])
    | 2, hw => simp [nth] at hw
    | _ + 3, hw => simp [nth] at hw
def tx_ck : AT := fun _ _ k ls st M => match st with
  | .inl n :: .inl j :: st => (match Nat.ble (cats st) 8 with
    | true => (0 ≤ j ∧ j < n) ∧ k ls (.inl j :: st) M
    | false => False)
  | _ => False
theorem s_ck (C0 : CX p s m args meth c cc nL own D ca ad A) (hE : EX sx sy A s s.heap) {ig : Nat} (hCt : Ctr3 l y b fr lc) (hgs : Cond.fieldLink own ig "jdk/internal/util/Preconditions" "SIOOBE_FORMATTER" pcD ∈ GT) (hcode : Cond.code y b 3 (some .int) ∈ GT) (hlink : Cond.methodLink own idx y ∈ GT) (hstat : Cond.static y ∈ GT) (hini : Cond.initialized y.cls ∈ GT) (hy : y.cls ≠ "java/lang/invoke/MethodHandle" ∧ y.cls ≠ "java/lang/invoke/VarHandle") (hn : (parseMethodDescriptor y.desc).map (fun d => d.parameters.length) = some 3)
    (hrm : fr + 1 ≤ R.frames ∧ 8 + (3 + 11) + lc ≤ R.locals) (hf : gc (pc + 3) + 0 ≤ R.cells ∧ gs (pc + 3) + 6 * 0 ≤ R.slots) (hd : decode cc pc = .ok (.getstatic ig, 3)) (hd3 : decode cc (pc + 3) = .ok (.invokestatic idx, 3)) (hout : ∀ x ∈ c.exceptionTable.toList, covers x (pc + 3) = false)
    (hg0 : gc pc ≤ gc (pc + 3) ∧ gs pc ≤ gs (pc + 3)) (hg : gc (pc + 3) + 0 ≤ gc (pc + 3 + 3) ∧ gs (pc + 3) + 6 * 0 ≤ gs (pc + 3 + 3)) (hmc : gc (pc + 3) + 0 ≤ mc ∧ gs (pc + 3) + 6 * 0 ≤ ms)
    (hk : ∀ ls st M, k ls st M → JW p l e R s m args below meth c nL D ca ad A (vx_MQ below (Qn D ca ad A Q) (Qx D ca ad A Q) args s mc ms A) gc gs true (pc + 3 + 3) ls st M) :
    ∀ ls st M, tx_ck J Q k ls st M → JW p l e R s m args below meth c nL D ca ad A (vx_MQ below (Qn D ca ad A Q) (Qx D ca ad A Q) args s mc ms A) gc gs true pc ls st M := by
  intro ls st M h H locs lsA hR hc hz hP hS ho hol hl
  unfold tx_ck at h
  split at h
  · rename_i n j st
    split at h
    · rename_i hcat
      obtain ⟨⟨j0, j1⟩, h⟩ := h
      have on : okI n := okh ho
      have oj : okI j := okh (okt ho)
      have key : ∀ v : Value, (v = .null ∨ ∃ t, v = .ref t) → W p l e R s m args below meth c H locs (gc (pc + 3)) (gs (pc + 3)) (vx_MQ below (Qn D ca ad A Q) (Qx D ca ad A Q) args s mc ms A) (F0 m (pc + 3) lsA (v :: .int (Int32.ofInt n) :: .int (Int32.ofInt j) :: st.map (vv ad))) := by
        intro v hv
        refine s_after (pc := pc + 3) (mc1 := 0) (ms1 := 6 * 0) (r := st) (a := ([.int (Int32.ofInt j), .int (Int32.ofInt n), v] : List Value).toArray) C0.2.2.2.2.2.2.2.2.2.2 hout C0.2.2.2.2.2.2.2.2.2.1 hg hmc hS (okt (okt ho)) hol hl hk ?_
        exact vx_runS (cc := cc) (nL := nL) (Ts := GT) (own := own) (As := [.int (Int32.ofInt j), .int (Int32.ofInt n), v]) (index := idx) (n := 3) (bytes := b) (maxL := 3) (ret := some .int) ⟨C0.1, C0.2.1, C0.2.2.1, C0.2.2.2.1, C0.2.2.2.2.1⟩
          (hCt D ca ad sx sy A H.size j n v M (aft Q k ls st) C0.2.2.2.2.2.2.2.1 C0.2.2.2.2.2.2.2.2.1 (fun q hq => C0.2.2.2.2.2.2.2.2.2.1 q (Nat.le_trans hS.1 hq)) hR oj on hv j0 j1 h)
          ⟨⟨rfl, rfl, hrm.1, hrm.2, hws_of C0 hcode, List.mem_cons_self, C0.2.2.2.2.1 _ hcode, C0.2.2.2.2.1 _ hini, hy, params_of hn, C0.2.2.2.2.1 _ hlink⟩, C0.2.2.2.2.1 _ hstat⟩
          ⟨blind, fun U hU hW => ⟨rfl, pcb_at C0 hE rfl hP hS hU hW⟩⟩ rfl rfl hl.1 rfl (cats_le (m := m) (pc := pc) hcat) hd3 hf
      rcases hE.2.2.2.2.2.2.1 with hZ | ⟨t, hZ⟩
      · exact va_gets C0.1 C0.2.1 hZ hS C0.2.2.2.1 (C0.2.2.2.2.1 _ hgs) (fun x hx => hx) hd (W.widen hg0.1 hg0.2 (key _ (Or.inl rfl)))
      · exact va_gets C0.1 C0.2.1 hZ hS C0.2.2.2.1 (C0.2.2.2.2.1 _ hgs) (fun x hx => hx) hd (W.widen hg0.1 hg0.2 (key _ (Or.inr ⟨t, rfl⟩)))
    · exact h.elim
  · exact h.elim
def F_Jcoder (sx _sy : Nat → Nat) : FT := fun as M Q => match as with
  | [.inr (.inr (.inr a))] => (∃ i, i < 7 ∧ a = sx i) ∧ Q (.inl (some (vI 0))) M
  | _ => False
def F_Jlat (sx _sy : Nat → Nat) : FT := fun as M Q => match as with
  | [.inr (.inr (.inr a))] => (∃ i, i < 7 ∧ a = sx i) ∧ Q (.inl (some (vI 1))) M
  | _ => False
def F_Jlen (sx _sy : Nat → Nat) : FT := fun as M Q => match as with
  | [.inr (.inr (.inr a))] => ∃ i, i < 7 ∧ a = sx i ∧ Q (.inl (some (vI ((strC i).length : Int)))) M
  | _ => False
def F_Jck (_sx _sy : Nat → Nat) : FT := fun as M Q => match as with
  | [.inl j, .inl n] => (0 ≤ j ∧ j < n) ∧ Q (.inl none) M
  | _ => False
def F_Jc1 (_sx sy : Nat → Nat) : FT := fun as M Q => match as with
  | [.inr (.inr (.inr a)), .inl j] => ∃ i, i < 7 ∧ a = sy i ∧ (0 ≤ j ∧ j < ((strC i).length : Int)) ∧ Q (.inl (some (vI (((strC i).getD j.toNat 0 : Nat) : Int)))) M
  | _ => False
def F_Jchr (sx _sy : Nat → Nat) : FT := fun as M Q => match as with
  | [.inr (.inr (.inr a)), .inl j] => ∃ i, i < 7 ∧ a = sx i ∧ (0 ≤ j ∧ j < ((strC i).length : Int)) ∧ Q (.inl (some (vI (((strC i).getD j.toNat 0 : Nat) : Int)))) M
  | _ => False
theorem shr0 {x : Int} (h : okI x) : shrI x 0 = x := by
  unfold shrI
  simp [to_ok h]
theorem s_slen (C0 : CX p s m args meth c cc nL own D ca ad A) (hE : EX sx sy A s s.heap) (hCt : Ctr2 l y b nl ret fr lc F_Jlen) (hcode : Cond.code y b nl ret ∈ GT) (hlink : Cond.methodLink own idx y ∈ GT) (hinst : Cond.instanceMethod y ∈ GT) (hsel : Cond.selects "java/lang/String" y y ∈ GT) (hini : Cond.initialized y.cls ∈ GT) (hy : y.cls ≠ "java/lang/invoke/MethodHandle" ∧ y.cls ≠ "java/lang/invoke/VarHandle") (hn : (parseMethodDescriptor y.desc).map (fun d => d.parameters.length) = some 0)
    (hrm : fr + 1 ≤ R.frames ∧ 8 + (nl + 11) + lc ≤ R.locals) (hf : gc pc + 0 ≤ R.cells ∧ gs pc + 6 * 0 ≤ R.slots) (hd : decode cc pc = .ok (.invokevirtual idx, 3)) (hout : ∀ x ∈ c.exceptionTable.toList, covers x pc = false)
    (hg : gc pc + 0 ≤ gc (pc + 3) ∧ gs pc + 6 * 0 ≤ gs (pc + 3)) (hmc : gc pc + 0 ≤ mc ∧ gs pc + 6 * 0 ≤ ms)
    (hk : ∀ ls st M, k ls st M → JW p l e R s m args below meth c nL D ca ad A (vx_MQ below (Qn D ca ad A Q) (Qx D ca ad A Q) args s mc ms A) gc gs true (pc + 3) ls st M) :
    ∀ ls st M, tx_slen sx J Q k ls st M → JW p l e R s m args below meth c nL D ca ad A (vx_MQ below (Qn D ca ad A Q) (Qx D ca ad A Q) args s mc ms A) gc gs true pc ls st M := by
  intro ls st M h
  refine s_callo (J := J) C0 hE hCt hcode hlink hinst hsel hini hy hn hrm hf hd hout hg hmc hk ls st M ?_
  unfold tx_slen at h
  split at h
  · rename_i a st
    show (match Nat.ble (cats st) 8 with | true => _ | false => False)
    split at h
    · rename_i hcat
      rw [hcat]
      obtain ⟨i, hi, ha, h⟩ := h
      exact ⟨⟨i, hi, ha⟩, i, hi, ha, h⟩
    · exact h.elim
  · exact h.elim
theorem s_schr (C0 : CX p s m args meth c cc nL own D ca ad A) (hE : EX sx sy A s s.heap) (hCt : Ctr2 l y b nl ret fr lc F_Jchr) (hcode : Cond.code y b nl ret ∈ GT) (hlink : Cond.methodLink own idx y ∈ GT) (hinst : Cond.instanceMethod y ∈ GT) (hsel : Cond.selects "java/lang/String" y y ∈ GT) (hini : Cond.initialized y.cls ∈ GT) (hy : y.cls ≠ "java/lang/invoke/MethodHandle" ∧ y.cls ≠ "java/lang/invoke/VarHandle") (hn : (parseMethodDescriptor y.desc).map (fun d => d.parameters.length) = some 1)
    (hrm : fr + 1 ≤ R.frames ∧ 8 + (nl + 11) + lc ≤ R.locals) (hf : gc pc + 0 ≤ R.cells ∧ gs pc + 6 * 0 ≤ R.slots) (hd : decode cc pc = .ok (.invokevirtual idx, 3)) (hout : ∀ x ∈ c.exceptionTable.toList, covers x pc = false)
    (hg : gc pc + 0 ≤ gc (pc + 3) ∧ gs pc + 6 * 0 ≤ gs (pc + 3)) (hmc : gc pc + 0 ≤ mc ∧ gs pc + 6 * 0 ≤ ms)
    (hk : ∀ ls st M, k ls st M → JW p l e R s m args below meth c nL D ca ad A (vx_MQ below (Qn D ca ad A Q) (Qx D ca ad A Q) args s mc ms A) gc gs true (pc + 3) ls st M) :
    ∀ ls st M, tx_schr sx J Q k ls st M → JW p l e R s m args below meth c nL D ca ad A (vx_MQ below (Qn D ca ad A Q) (Qx D ca ad A Q) args s mc ms A) gc gs true pc ls st M := by
  intro ls st M h
  refine s_callo (J := J) C0 hE hCt hcode hlink hinst hsel hini hy hn hrm hf hd hout hg hmc hk ls st M ?_
  unfold tx_schr at h
  split at h
  · rename_i j a st
    show (match Nat.ble (cats st) 8 with | true => _ | false => False)
    split at h
    · rename_i hcat
      rw [hcat]
      obtain ⟨i, hi, ha, hj, h⟩ := h
      exact ⟨⟨i, hi, ha⟩, i, hi, ha, hj, h⟩
    · exact h.elim
  · exact h.elim
end Str
