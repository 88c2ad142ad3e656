/-! THE LIFTING: what the abstract machine says of a state holds of the machine itself -/
def JW (p : Program) (l : Launch) (e : Env) (R : Room) (s : State) (m : MethodId) (args : Array Value) (below : List Frame) (meth : Method) (c : Code) (nL : Nat) (D : va_G) (ca : Nat → ClassId) (ad : Nat → Nat) (A : Nat → Prop) (Qf : State → Prop) (gc gs : Nat → Nat) (bl : Bool) : JT := fun pc ls st M =>
  ∀ (H : Heap) (locs : List Loc) (lsA : Array Slot), rng M → cnt bl M ≤ 337 → (bl = false → H.size = ad (cnt bl M)) → va_P D vwCl (mk bl ca ad M) H → va_S A s.heap H locs → (∀ v ∈ st, okv v) → (∀ v, some v ∈ ls → okv v) → lvA nL ad ls lsA →
    W p l e R s m args below meth c H locs (gc pc) (gs pc) Qf (F0 m pc lsA (st.map (vv ad)))
def CX (p : Program) (s : State) (m : MethodId) (args : Array Value) (meth : Method) (c : Code) (cc : ByteArray) (nL : Nat) (own : String) (D : va_G) (ca : Nat → ClassId) (ad : Nat → Nat) (A : Nat → Prop) : Prop :=
  p.tables.exec = Jvm.exec ∧ c.code = cc ∧ c.maxLocals = nL ∧ s.vm.findClass own = some m.cls ∧ (∀ w ∈ GT, w.before args s = true) ∧ (∀ w ∈ NT, va_Nw w s) ∧ va_K D vwCl (tys ca) s ∧ injA ad ∧ (∀ k, k < 337 → A (ad k)) ∧ (∀ q, s.heap.size ≤ q → A q) ∧ meth.locks = false
theorem SH_lt {k kd : Nat} (h : (SH k).1 = kd) (hk : kd < 99) : k < 337 := by
  rcases Nat.lt_or_ge k 337 with q | q
  · exact q
  · rw [SH_big q] at h
    simp at h
    omega
theorem SH_n : ∀ k : Nat, (SH k).2.1 < 2147483648 := by
  intro k
  rcases Nat.lt_or_ge k 337 with q | q
  · have h : ∀ k, k < 337 → (SH k).2.1 < 2147483648 := by decide +kernel
    exact h k q
  · rw [SH_big q]; decide
section Rules
variable {p : Program} {l : Launch} {e : Env} {R : Room} {s : State} {m : MethodId} {args : Array Value} {below : List Frame} {meth : Method} {c : Code} {cc : ByteArray} {nL : Nat} {own : String} {D : va_G} {ca : Nat → ClassId} {ad : Nat → Nat} {A : Nat → Prop} {Qf : State → Prop} {gc gs : Nat → Nat} {bl : Bool}
variable {J : JT} {Q : QT} {k : Kt} {pc nx : Nat}
theorem s_ic (C0 : CX p s m args meth c cc nL own D ca ad A) {n : Int} (hd : decode cc pc = .ok (.iconst n, 1)) (hg : gc pc ≤ gc (pc + 1) ∧ gs pc ≤ gs (pc + 1))
    (hk : ∀ ls st M, k ls st M → JW p l e R s m args below meth c nL D ca ad A Qf gc gs bl (pc + 1) ls st M) (hn : okI n) : ∀ ls st M, tx_ic n J Q k ls st M → JW p l e R s m args below meth c nL D ca ad A Qf gc gs bl pc ls st M := by
  intro ls st M h H locs lsA hR hc hz hP hS ho hol hl
  refine lv_iconst (v := Int32.ofInt n) C0.1 C0.2.1 hd rfl (W.widen hg.1 hg.2 (hk _ _ _ h H locs lsA hR hc hz hP hS ?_ hol hl))
  intro v hv
  rcases List.mem_cons.mp hv with rfl | hv
  · exact hn
  · exact ho v hv
theorem s_bi (C0 : CX p s m args meth c cc nL own D ca ad A) {n : Int} (hd : decode cc pc = .ok (.bipush n, 2)) (hg : gc pc ≤ gc (pc + 2) ∧ gs pc ≤ gs (pc + 2))
    (hk : ∀ ls st M, k ls st M → JW p l e R s m args below meth c nL D ca ad A Qf gc gs bl (pc + 2) ls st M) (hn : okI n) (hv : (Int8.ofInt n).toInt32 = Int32.ofInt n) : ∀ ls st M, tx_ic n J Q k ls st M → JW p l e R s m args below meth c nL D ca ad A Qf gc gs bl pc ls st M := by
  intro ls st M h H locs lsA hR hc hz hP hS ho hol hl
  refine lv_bipush (v := Int32.ofInt n) C0.1 C0.2.1 hd hv (W.widen hg.1 hg.2 (hk _ _ _ h H locs lsA hR hc hz hP hS ?_ hol hl))
  intro v hv
  rcases List.mem_cons.mp hv with rfl | hv
  · exact hn
  · exact ho v hv
theorem s_il (C0 : CX p s m args meth c cc nL own D ca ad A) {i : Nat} (hd : decode cc pc = .ok (.iload i, 2)) (hg : gc pc ≤ gc (pc + 2) ∧ gs pc ≤ gs (pc + 2))
    (hk : ∀ ls st M, k ls st M → JW p l e R s m args below meth c nL D ca ad A Qf gc gs bl (pc + 2) ls st M) : ∀ ls st M, tx_il i J Q k ls st M → JW p l e R s m args below meth c nL D ca ad A Qf gc gs bl pc ls st M := by
  intro ls st M h H locs lsA hR hc hz hP hS ho hol hl
  unfold tx_il at h
  split at h
  · rename_i x hx
    refine lv_iload (x := Int32.ofInt x) C0.1 C0.2.1 hd (lvA_at hl hx) (W.widen hg.1 hg.2 (hk _ _ _ h H locs lsA hR hc hz hP hS ?_ hol hl))
    intro v hv
    rcases List.mem_cons.mp hv with rfl | hv
    · exact hol _ (nth_mem hx)
    · exact ho v hv
  · exact h.elim
theorem s_iln (C0 : CX p s m args meth c cc nL own D ca ad A) {i : Fin 4} (hd : decode cc pc = .ok (.iload_n i, 1)) (hg : gc pc ≤ gc (pc + 1) ∧ gs pc ≤ gs (pc + 1))
    (hk : ∀ ls st M, k ls st M → JW p l e R s m args below meth c nL D ca ad A Qf gc gs bl (pc + 1) ls st M) : ∀ ls st M, tx_il i.val J Q k ls st M → JW p l e R s m args below meth c nL D ca ad A Qf gc gs bl pc ls st M := by
  intro ls st M h H locs lsA hR hc hz hP hS ho hol hl
  unfold tx_il at h
  split at h
  · rename_i x hx
    refine lv_iload_n (x := Int32.ofInt x) C0.1 C0.2.1 hd rfl (lvA_at hl hx) (W.widen hg.1 hg.2 (hk _ _ _ h H locs lsA hR hc hz hP hS ?_ hol hl))
    intro v hv
    rcases List.mem_cons.mp hv with rfl | hv
    · exact hol _ (nth_mem hx)
    · exact ho v hv
  · exact h.elim
theorem s_aln (C0 : CX p s m args meth c cc nL own D ca ad A) {i : Fin 4} (hd : decode cc pc = .ok (.aload_n i, 1)) (hg : gc pc ≤ gc (pc + 1) ∧ gs pc ≤ gs (pc + 1))
    (hk : ∀ ls st M, k ls st M → JW p l e R s m args below meth c nL D ca ad A Qf gc gs bl (pc + 1) ls st M) : ∀ ls st M, tx_al i.val J Q k ls st M → JW p l e R s m args below meth c nL D ca ad A Qf gc gs bl pc ls st M := by
  intro ls st M h H locs lsA hR hc hz hP hS ho hol hl
  unfold tx_al at h
  split at h
  · rename_i x hx
    refine lv_aload_n (x := ad x) C0.1 C0.2.1 hd rfl (lvA_at hl hx) (W.widen hg.1 hg.2 (hk _ _ _ h H locs lsA hR hc hz hP hS ?_ hol hl))
    intro v hv
    rcases List.mem_cons.mp hv with rfl | hv
    · trivial
    · exact ho v hv
  · rename_i x hx
    refine lv_aload_n (x := x) C0.1 C0.2.1 hd rfl (lvA_at hl hx) (W.widen hg.1 hg.2 (hk _ _ _ h H locs lsA hR hc hz hP hS ?_ hol hl))
    intro v hv
    rcases List.mem_cons.mp hv with rfl | hv
    · trivial
    · exact ho v hv
  · exact h.elim
theorem s_isn (C0 : CX p s m args meth c cc nL own D ca ad A) {i : Fin 4} (hd : decode cc pc = .ok (.istore_n i, 1)) (hg : gc pc ≤ gc (pc + 1) ∧ gs pc ≤ gs (pc + 1))
    (hk : ∀ ls st M, k ls st M → JW p l e R s m args below meth c nL D ca ad A Qf gc gs bl (pc + 1) ls st M) : ∀ ls st M, tx_is i.val J Q k ls st M → JW p l e R s m args below meth c nL D ca ad A Qf gc gs bl pc ls st M := by
  intro ls st M h H locs lsA hR hc hz hP hS ho hol hl
  unfold tx_is at h
  split at h
  · rename_i x st
    split at h
    · rename_i hh
      rw [Bool.or_eq_false_iff] at hh
      have hlen : i.val < ls.length := Nat.not_le.mp (fun q => by rw [Nat.ble_eq_true_of_le q] at hh; exact absurd hh.2 (by decide))
      refine lv_istore_n (x := Int32.ofInt x) C0.1 C0.2.1 hd rfl (lvA_has hl) (by rw [← hl.2.2.1]; exact hlen) rfl (fun ls' hl' => W.widen hg.1 hg.2 (hk _ _ _ h H locs ls' hR hc hz hP hS (fun v hv => ho v (List.mem_cons_of_mem _ hv)) (fun v hv => ?_) (lvA_st1 hl hh.1 hlen rfl hl')))
      rcases setL_mem hv with hv | hv
      · exact hol v hv
      · cases hv; exact ho _ List.mem_cons_self
    · exact h.elim
  · exact h.elim
theorem s_bin (C0 : CX p s m args meth c cc nL own D ca ad A) {f : Int → Int → Int} (hg : gc pc ≤ gc (pc + 1) ∧ gs pc ≤ gs (pc + 1)) (hf : ∀ x y, okI x → okI y → okI (f x y))
    (hrow : ∀ (H : Heap) (locs : List Loc) (lsA : Array Slot) (rest : List Value) (x y : Int), okI x → okI y → W p l e R s m args below meth c H locs (gc pc) (gs pc) Qf (F0 m (pc + 1) lsA (.int (Int32.ofInt (f x y)) :: rest)) → W p l e R s m args below meth c H locs (gc pc) (gs pc) Qf (F0 m pc lsA (.int (Int32.ofInt y) :: .int (Int32.ofInt x) :: rest)))
    (hk : ∀ ls st M, k ls st M → JW p l e R s m args below meth c nL D ca ad A Qf gc gs bl (pc + 1) ls st M) : ∀ ls st M, tx_bin f J Q k ls st M → JW p l e R s m args below meth c nL D ca ad A Qf gc gs bl pc ls st M := by
  intro ls st M h H locs lsA hR hc hz hP hS ho hol hl
  unfold tx_bin at h
  split at h
  · rename_i y x st
    have hy : okI y := ho (.inl y) List.mem_cons_self
    have hx : okI x := ho (.inl x) (List.mem_cons_of_mem _ List.mem_cons_self)
    refine hrow H locs lsA (st.map (vv ad)) x y hx hy (W.widen hg.1 hg.2 (hk _ _ _ h H locs lsA hR hc hz hP hS ?_ hol hl))
    intro v hv
    rcases List.mem_cons.mp hv with rfl | hv
    · exact hf x y hx hy
    · exact ho v (List.mem_cons_of_mem _ (List.mem_cons_of_mem _ hv))
  · exact h.elim
theorem s_add (C0 : CX p s m args meth c cc nL own D ca ad A) (hd : decode cc pc = .ok (.iadd, 1)) (hg : gc pc ≤ gc (pc + 1) ∧ gs pc ≤ gs (pc + 1))
    (hk : ∀ ls st M, k ls st M → JW p l e R s m args below meth c nL D ca ad A Qf gc gs bl (pc + 1) ls st M) : ∀ ls st M, tx_bin f_add J Q k ls st M → JW p l e R s m args below meth c nL D ca ad A Qf gc gs bl pc ls st M :=
  s_bin C0 hg (fun _ _ _ _ => w32_ok _) (fun H locs lsA rest x y _ _ h => lv_iadd C0.1 C0.2.1 hd (by rw [of_add]; exact h)) hk
theorem s_and (C0 : CX p s m args meth c cc nL own D ca ad A) (hd : decode cc pc = .ok (.iand, 1)) (hg : gc pc ≤ gc (pc + 1) ∧ gs pc ≤ gs (pc + 1))
    (hk : ∀ ls st M, k ls st M → JW p l e R s m args below meth c nL D ca ad A Qf gc gs bl (pc + 1) ls st M) : ∀ ls st M, tx_bin andI J Q k ls st M → JW p l e R s m args below meth c nL D ca ad A Qf gc gs bl pc ls st M :=
  s_bin C0 hg (fun _ _ _ _ => ok_of _) (fun H locs lsA rest x y _ _ h => lv_iand C0.1 C0.2.1 hd (by rw [← as_of (_ &&& _)]; exact h)) hk
theorem s_cmpg (C0 : CX p s m args meth c cc nL own D ca ad A) {r : Int → Int → Prop} {tgt : Nat} (hg : gc pc ≤ gc (pc + 3) ∧ gs pc ≤ gs (pc + 3)) (hg2 : gc pc ≤ gc tgt ∧ gs pc ≤ gs tgt)
    (hrow : ∀ (H : Heap) (locs : List Loc) (lsA : Array Slot) (rest : List Value) (x y : Int), okI x → okI y → (r x y → W p l e R s m args below meth c H locs (gc pc) (gs pc) Qf (F0 m tgt lsA rest)) → (¬ r x y → W p l e R s m args below meth c H locs (gc pc) (gs pc) Qf (F0 m (pc + 3) lsA rest)) → W p l e R s m args below meth c H locs (gc pc) (gs pc) Qf (F0 m pc lsA (.int (Int32.ofInt y) :: .int (Int32.ofInt x) :: rest)))
    (hj : ∀ ls st M, J tgt ls st M → JW p l e R s m args below meth c nL D ca ad A Qf gc gs bl tgt ls st M)
    (hk : ∀ ls st M, k ls st M → JW p l e R s m args below meth c nL D ca ad A Qf gc gs bl (pc + 3) ls st M) : ∀ ls st M, tx_cmp r tgt J Q k ls st M → JW p l e R s m args below meth c nL D ca ad A Qf gc gs bl pc ls st M := by
  intro ls st M h H locs lsA hR hc hz hP hS ho hol hl
  unfold tx_cmp at h
  split at h
  · rename_i y x st
    have hy : okI y := ho (.inl y) List.mem_cons_self
    have hx : okI x := ho (.inl x) (List.mem_cons_of_mem _ List.mem_cons_self)
    have ho' : ∀ v ∈ st, okv v := fun v hv => ho v (List.mem_cons_of_mem _ (List.mem_cons_of_mem _ hv))
    exact hrow H locs lsA (st.map (vv ad)) x y hx hy (fun q => W.widen hg2.1 hg2.2 (hj _ _ _ (h.1 q) H locs lsA hR hc hz hP hS ho' hol hl)) (fun q => W.widen hg.1 hg.2 (hk _ _ _ (h.2 q) H locs lsA hR hc hz hP hS ho' hol hl))
  · exact h.elim
theorem s_clt (C0 : CX p s m args meth c cc nL own D ca ad A) {off : Int} {tgt : Nat} (hd : decode cc pc = .ok (.if_icmp .lt off, 3)) (ht : (pc : Int) + off = (tgt : Int)) (hg : gc pc ≤ gc (pc + 3) ∧ gs pc ≤ gs (pc + 3)) (hg2 : gc pc ≤ gc tgt ∧ gs pc ≤ gs tgt)
    (hj : ∀ ls st M, J tgt ls st M → JW p l e R s m args below meth c nL D ca ad A Qf gc gs bl tgt ls st M)
    (hk : ∀ ls st M, k ls st M → JW p l e R s m args below meth c nL D ca ad A Qf gc gs bl (pc + 3) ls st M) : ∀ ls st M, tx_cmp r_lt tgt J Q k ls st M → JW p l e R s m args below meth c nL D ca ad A Qf gc gs bl pc ls st M :=
  s_cmpg C0 hg hg2 (fun H locs lsA rest x y hx hy h1 h2 => lv_icmp_lt C0.1 C0.2.1 hd ht (fun q => h1 ((of_lt hx hy).mp q)) (fun q => h2 (fun z => q ((of_lt hx hy).mpr z)))) hj hk
end Rules
