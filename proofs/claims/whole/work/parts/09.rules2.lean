section Rules2
variable {p : Program} {l : Launch} {e : Env} {R : Room} {s : State} {m : MethodId} {args : Array Value} {below : List Frame} {meth : Method} {c : Code} {cc : ByteArray} {nL : Nat} {own : String} {D : va_G} {ca : Nat → ClassId} {ad : Nat → Nat} {A : Nat → Prop} {Qf : State → Prop} {gc gs : Nat → Nat} {bl : Bool}
variable {J : JT} {Q : QT} {k : Kt} {pc nx : Nat}
theorem okc {v : Vl} {st : St} (hv : okv v) (ho : ∀ w ∈ st, okv w) : ∀ w ∈ v :: st, okv w := by
  intro w hw
  rcases List.mem_cons.mp hw with rfl | hw
  · exact hv
  · exact ho w hw
theorem okt {v : Vl} {st : St} (ho : ∀ w ∈ v :: st, okv w) : ∀ w ∈ st, okv w := fun w hw => ho w (List.mem_cons_of_mem _ hw)
theorem okh {v : Vl} {st : St} (ho : ∀ w ∈ v :: st, okv w) : okv v := ho v List.mem_cons_self
theorem st_len {ls : Ls} {i j : Nat} (h : (half ls i || Nat.ble ls.length j) = false) : half ls i = false ∧ j < ls.length := by
  rw [Bool.or_eq_false_iff] at h
  exact ⟨h.1, Nat.not_le.mp (fun q => by rw [Nat.ble_eq_true_of_le q] at h; exact absurd h.2 (by decide))⟩
theorem ok_set {ls : Ls} {i : Nat} {v : Vl} (hol : ∀ v, some v ∈ ls → okv v) (hv : okv v) : ∀ w, some w ∈ setL ls i (some v) → okv w := by
  intro w hw
  rcases setL_mem hw with h | h
  · exact hol w h
  · cases h; exact hv
theorem ok_set0 {ls : Ls} {i : Nat} (hol : ∀ v, some v ∈ ls → okv v) : ∀ w, some w ∈ setL ls i none → okv w := by
  intro w hw
  rcases setL_mem hw with h | h
  · exact hol w h
  · cases h
theorem s_si (C0 : CX p s m args meth c cc nL own D ca ad A) {n : Int} (hd : decode cc pc = .ok (.sipush n, 3)) (hg : gc pc ≤ gc (pc + 3) ∧ gs pc ≤ gs (pc + 3)) (hk : ∀ ls st M, k ls st M → JW p l e R s m args below meth c nL D ca ad A Qf gc gs bl (pc + 3) ls st M) (hn : okI n) (hv : (Int16.ofInt n).toInt32 = Int32.ofInt n) : ∀ ls st M, tx_ic n J Q k ls st M → JW p l e R s m args below meth c nL D ca ad A Qf gc gs bl pc ls st M := by
  intro ls st M h H locs lsA hR hc hz hP hS ho hol hl
  exact lv_sipush (v := Int32.ofInt n) C0.1 C0.2.1 hd hv (W.widen hg.1 hg.2 (hk _ _ _ h H locs lsA hR hc hz hP hS (okc hn ho) hol hl))
theorem s_ldc (C0 : CX p s m args meth c cc nL own D ca ad A) {idx : Nat} {n : Int} (hw : Cond.constant own idx (Int32.ofInt n) ∈ GT) (hd : decode cc pc = .ok (.ldc idx, 2)) (hg : gc pc ≤ gc (pc + 2) ∧ gs pc ≤ gs (pc + 2)) (hk : ∀ ls st M, k ls st M → JW p l e R s m args below meth c nL D ca ad A Qf gc gs bl (pc + 2) ls st M) (hn : okI n) : ∀ ls st M, tx_ic n J Q k ls st M → JW p l e R s m args below meth c nL D ca ad A Qf gc gs bl pc ls st M := by
  intro ls st M h H locs lsA hR hc hz hP hS ho hol hl
  exact lv_ldc C0.1 C0.2.1 C0.2.2.2.1 (C0.2.2.2.2.1 _ hw) hd (W.widen hg.1 hg.2 (hk _ _ _ h H locs lsA hR hc hz hP hS (okc hn ho) hol hl))
theorem s_ldcw (C0 : CX p s m args meth c cc nL own D ca ad A) {idx : Nat} {n : Int} (hw : Cond.constant own idx (Int32.ofInt n) ∈ GT) (hd : decode cc pc = .ok (.ldc_w idx, 3)) (hg : gc pc ≤ gc (pc + 3) ∧ gs pc ≤ gs (pc + 3)) (hk : ∀ ls st M, k ls st M → JW p l e R s m args below meth c nL D ca ad A Qf gc gs bl (pc + 3) ls st M) (hn : okI n) : ∀ ls st M, tx_ic n J Q k ls st M → JW p l e R s m args below meth c nL D ca ad A Qf gc gs bl pc ls st M := by
  intro ls st M h H locs lsA hR hc hz hP hS ho hol hl
  exact lv_ldcw C0.1 C0.2.1 C0.2.2.2.1 (C0.2.2.2.2.1 _ hw) hd (W.widen hg.1 hg.2 (hk _ _ _ h H locs lsA hR hc hz hP hS (okc hn ho) hol hl))
theorem s_ldc2 (C0 : CX p s m args meth c cc nL own D ca ad A) {idx : Nat} {n : Int} (hw : Cond.constantLong own idx (Int64.ofInt n) ∈ GT) (hd : decode cc pc = .ok (.ldc2_w idx, 3)) (hg : gc pc ≤ gc (pc + 3) ∧ gs pc ≤ gs (pc + 3)) (hk : ∀ ls st M, k ls st M → JW p l e R s m args below meth c nL D ca ad A Qf gc gs bl (pc + 3) ls st M) (hn : okL n) : ∀ ls st M, tx_lc n J Q k ls st M → JW p l e R s m args below meth c nL D ca ad A Qf gc gs bl pc ls st M := by
  intro ls st M h H locs lsA hR hc hz hP hS ho hol hl
  exact lv_ldc2 C0.1 C0.2.1 C0.2.2.2.1 (C0.2.2.2.2.1 _ hw) hd (W.widen hg.1 hg.2 (hk _ _ _ h H locs lsA hR hc hz hP hS (okc (v := .inr (.inr (.inl n))) hn ho) hol hl))
theorem s_lcn (C0 : CX p s m args meth c cc nL own D ca ad A) {n : Fin 2} {x : Int} (hd : decode cc pc = .ok (.lconst n, 1)) (hg : gc pc ≤ gc (pc + 1) ∧ gs pc ≤ gs (pc + 1)) (hk : ∀ ls st M, k ls st M → JW p l e R s m args below meth c nL D ca ad A Qf gc gs bl (pc + 1) ls st M) (hx : Int64.ofNat (n : Nat) = Int64.ofInt x) (hn : okL x) : ∀ ls st M, tx_lc x J Q k ls st M → JW p l e R s m args below meth c nL D ca ad A Qf gc gs bl pc ls st M := by
  intro ls st M h H locs lsA hR hc hz hP hS ho hol hl
  exact lv_lconst C0.1 C0.2.1 hd hx (W.widen hg.1 hg.2 (hk _ _ _ h H locs lsA hR hc hz hP hS (okc (v := .inr (.inr (.inl x))) hn ho) hol hl))
theorem s_al (C0 : CX p s m args meth c cc nL own D ca ad A) {i : Nat} (hd : decode cc pc = .ok (.aload i, 2)) (hg : gc pc ≤ gc (pc + 2) ∧ gs pc ≤ gs (pc + 2)) (hk : ∀ ls st M, k ls st M → JW p l e R s m args below meth c nL D ca ad A Qf gc gs bl (pc + 2) ls st M) : ∀ ls st M, tx_al i J Q k ls st M → JW p l e R s m args below meth c nL D ca ad A Qf gc gs bl pc ls st M := by
  intro ls st M h H locs lsA hR hc hz hP hS ho hol hl
  unfold tx_al at h
  split at h
  · rename_i x hx
    exact lv_aload (x := ad x) C0.1 C0.2.1 hd (lvA_at hl hx) (W.widen hg.1 hg.2 (hk _ _ _ h H locs lsA hR hc hz hP hS (okc (v := .inr (.inl x)) trivial ho) hol hl))
  · rename_i x hx
    exact lv_aload (x := x) C0.1 C0.2.1 hd (lvA_at hl hx) (W.widen hg.1 hg.2 (hk _ _ _ h H locs lsA hR hc hz hP hS (okc (v := .inr (.inr (.inr x))) trivial ho) hol hl))
  · exact h.elim
theorem s_ll (C0 : CX p s m args meth c cc nL own D ca ad A) {i : Nat} (hd : decode cc pc = .ok (.lload i, 2)) (hg : gc pc ≤ gc (pc + 2) ∧ gs pc ≤ gs (pc + 2)) (hk : ∀ ls st M, k ls st M → JW p l e R s m args below meth c nL D ca ad A Qf gc gs bl (pc + 2) ls st M) : ∀ ls st M, tx_ll i J Q k ls st M → JW p l e R s m args below meth c nL D ca ad A Qf gc gs bl pc ls st M := by
  intro ls st M h H locs lsA hR hc hz hP hS ho hol hl
  unfold tx_ll at h
  split at h
  · rename_i x hx
    exact lv_lload (x := Int64.ofInt x) C0.1 C0.2.1 hd (lvA_at hl hx) (W.widen hg.1 hg.2 (hk _ _ _ h H locs lsA hR hc hz hP hS (okc (v := .inr (.inr (.inl x))) (hol _ (nth_mem hx)) ho) hol hl))
  · exact h.elim
theorem s_lln (C0 : CX p s m args meth c cc nL own D ca ad A) {i : Fin 4} (hd : decode cc pc = .ok (.lload_n i, 1)) (hg : gc pc ≤ gc (pc + 1) ∧ gs pc ≤ gs (pc + 1)) (hk : ∀ ls st M, k ls st M → JW p l e R s m args below meth c nL D ca ad A Qf gc gs bl (pc + 1) ls st M) : ∀ ls st M, tx_ll i.val J Q k ls st M → JW p l e R s m args below meth c nL D ca ad A Qf gc gs bl pc ls st M := by
  intro ls st M h H locs lsA hR hc hz hP hS ho hol hl
  unfold tx_ll at h
  split at h
  · rename_i x hx
    exact lv_lload_n (x := Int64.ofInt x) C0.1 C0.2.1 hd rfl (lvA_at hl hx) (W.widen hg.1 hg.2 (hk _ _ _ h H locs lsA hR hc hz hP hS (okc (v := .inr (.inr (.inl x))) (hol _ (nth_mem hx)) ho) hol hl))
  · exact h.elim
theorem s_is (C0 : CX p s m args meth c cc nL own D ca ad A) {i : Nat} (hd : decode cc pc = .ok (.istore i, 2)) (hg : gc pc ≤ gc (pc + 2) ∧ gs pc ≤ gs (pc + 2)) (hk : ∀ ls st M, k ls st M → JW p l e R s m args below meth c nL D ca ad A Qf gc gs bl (pc + 2) ls st M) : ∀ ls st M, tx_is i J Q k ls st M → JW p l e R s m args below meth c nL D ca ad A Qf gc gs bl pc ls st M := by
  intro ls st M h H locs lsA hR hc hz hP hS ho hol hl
  unfold tx_is at h
  split at h
  · rename_i x st
    split at h
    · rename_i hh
      obtain ⟨h1, h2⟩ := st_len hh
      exact lv_istore (x := Int32.ofInt x) C0.1 C0.2.1 hd (lvA_has hl) (by rw [← hl.2.2.1]; exact h2) rfl (fun ls' hl' => W.widen hg.1 hg.2 (hk _ _ _ h H locs ls' hR hc hz hP hS (okt ho) (ok_set hol (okh ho)) (lvA_st1 hl h1 h2 rfl hl')))
    · exact h.elim
  · exact h.elim
theorem s_as (C0 : CX p s m args meth c cc nL own D ca ad A) {i : Nat} (hd : decode cc pc = .ok (.astore i, 2)) (hg : gc pc ≤ gc (pc + 2) ∧ gs pc ≤ gs (pc + 2)) (hk : ∀ ls st M, k ls st M → JW p l e R s m args below meth c nL D ca ad A Qf gc gs bl (pc + 2) ls st M) : ∀ ls st M, tx_as i J Q k ls st M → JW p l e R s m args below meth c nL D ca ad A Qf gc gs bl pc ls st M := by
  intro ls st M h H locs lsA hR hc hz hP hS ho hol hl
  unfold tx_as at h
  split at h
  · rename_i x st
    split at h
    · rename_i hh
      obtain ⟨h1, h2⟩ := st_len hh
      exact lv_astore (x := ad x) C0.1 C0.2.1 hd (lvA_has hl) (by rw [← hl.2.2.1]; exact h2) rfl (fun ls' hl' => W.widen hg.1 hg.2 (hk _ _ _ h H locs ls' hR hc hz hP hS (okt ho) (ok_set hol (okh ho)) (lvA_st1 hl h1 h2 rfl hl')))
    · exact h.elim
  · rename_i x st
    split at h
    · rename_i hh
      obtain ⟨h1, h2⟩ := st_len hh
      exact lv_astore (x := x) C0.1 C0.2.1 hd (lvA_has hl) (by rw [← hl.2.2.1]; exact h2) rfl (fun ls' hl' => W.widen hg.1 hg.2 (hk _ _ _ h H locs ls' hR hc hz hP hS (okt ho) (ok_set hol (okh ho)) (lvA_st1 (v := .inr (.inr (.inr x))) hl h1 h2 rfl hl')))
    · exact h.elim
  · exact h.elim
theorem s_asn (C0 : CX p s m args meth c cc nL own D ca ad A) {i : Fin 4} (hd : decode cc pc = .ok (.astore_n i, 1)) (hg : gc pc ≤ gc (pc + 1) ∧ gs pc ≤ gs (pc + 1)) (hk : ∀ ls st M, k ls st M → JW p l e R s m args below meth c nL D ca ad A Qf gc gs bl (pc + 1) ls st M) : ∀ ls st M, tx_as i.val J Q k ls st M → JW p l e R s m args below meth c nL D ca ad A Qf gc gs bl pc ls st M := by
  intro ls st M h H locs lsA hR hc hz hP hS ho hol hl
  unfold tx_as at h
  split at h
  · rename_i x st
    split at h
    · rename_i hh
      obtain ⟨h1, h2⟩ := st_len hh
      exact lv_astore_n (x := ad x) C0.1 C0.2.1 hd rfl (lvA_has hl) (by rw [← hl.2.2.1]; exact h2) rfl (fun ls' hl' => W.widen hg.1 hg.2 (hk _ _ _ h H locs ls' hR hc hz hP hS (okt ho) (ok_set hol (okh ho)) (lvA_st1 hl h1 h2 rfl hl')))
    · exact h.elim
  · rename_i x st
    split at h
    · rename_i hh
      obtain ⟨h1, h2⟩ := st_len hh
      exact lv_astore_n (x := x) C0.1 C0.2.1 hd rfl (lvA_has hl) (by rw [← hl.2.2.1]; exact h2) rfl (fun ls' hl' => W.widen hg.1 hg.2 (hk _ _ _ h H locs ls' hR hc hz hP hS (okt ho) (ok_set hol (okh ho)) (lvA_st1 (v := .inr (.inr (.inr x))) hl h1 h2 rfl hl')))
    · exact h.elim
  · exact h.elim
theorem s_ls (C0 : CX p s m args meth c cc nL own D ca ad A) {i : Nat} (hd : decode cc pc = .ok (.lstore i, 2)) (hg : gc pc ≤ gc (pc + 2) ∧ gs pc ≤ gs (pc + 2)) (hk : ∀ ls st M, k ls st M → JW p l e R s m args below meth c nL D ca ad A Qf gc gs bl (pc + 2) ls st M) : ∀ ls st M, tx_ls i J Q k ls st M → JW p l e R s m args below meth c nL D ca ad A Qf gc gs bl pc ls st M := by
  intro ls st M h H locs lsA hR hc hz hP hS ho hol hl
  unfold tx_ls at h
  split at h
  · rename_i x st
    split at h
    · rename_i hh
      obtain ⟨h1, h2⟩ := st_len hh
      exact lv_lstore (x := Int64.ofInt x) C0.1 C0.2.1 hd (lvA_has hl) (by rw [← hl.2.2.1]; exact h2) rfl (fun ls' hl' => W.widen hg.1 hg.2 (hk _ _ _ h H locs ls' hR hc hz hP hS (okt ho) (ok_set0 (ok_set hol (okh ho))) (lvA_st2 (v := .inr (.inr (.inl x))) hl h1 h2 rfl hl')))
    · exact h.elim
  · exact h.elim
theorem s_lsn (C0 : CX p s m args meth c cc nL own D ca ad A) {i : Fin 4} (hd : decode cc pc = .ok (.lstore_n i, 1)) (hg : gc pc ≤ gc (pc + 1) ∧ gs pc ≤ gs (pc + 1)) (hk : ∀ ls st M, k ls st M → JW p l e R s m args below meth c nL D ca ad A Qf gc gs bl (pc + 1) ls st M) : ∀ ls st M, tx_ls i.val J Q k ls st M → JW p l e R s m args below meth c nL D ca ad A Qf gc gs bl pc ls st M := by
  intro ls st M h H locs lsA hR hc hz hP hS ho hol hl
  unfold tx_ls at h
  split at h
  · rename_i x st
    split at h
    · rename_i hh
      obtain ⟨h1, h2⟩ := st_len hh
      exact lv_lstore_n (x := Int64.ofInt x) C0.1 C0.2.1 hd rfl (lvA_has hl) (by rw [← hl.2.2.1]; exact h2) rfl (fun ls' hl' => W.widen hg.1 hg.2 (hk _ _ _ h H locs ls' hR hc hz hP hS (okt ho) (ok_set0 (ok_set hol (okh ho))) (lvA_st2 (v := .inr (.inr (.inl x))) hl h1 h2 rfl hl')))
    · exact h.elim
  · exact h.elim
theorem s_inc (C0 : CX p s m args meth c cc nL own D ca ad A) {i : Nat} {n : Int} (hd : decode cc pc = .ok (.iinc i n, 3)) (hg : gc pc ≤ gc (pc + 3) ∧ gs pc ≤ gs (pc + 3)) (hk : ∀ ls st M, k ls st M → JW p l e R s m args below meth c nL D ca ad A Qf gc gs bl (pc + 3) ls st M) : ∀ ls st M, tx_inc i n J Q k ls st M → JW p l e R s m args below meth c nL D ca ad A Qf gc gs bl pc ls st M := by
  intro ls st M h H locs lsA hR hc hz hP hS ho hol hl
  unfold tx_inc at h
  split at h
  · rename_i x hx
    split at h
    · rename_i hh
      obtain ⟨h1, h2⟩ := st_len hh
      have hm := lsl_in (ad := ad) (n := 0) hx
      rw [Nat.zero_add] at hm
      obtain ⟨q, hq⟩ := List.getElem?_of_mem hm
      exact lv_iinc (k := q) (x := Int32.ofInt x) (v := Int32.ofInt (w32 (x + n))) C0.1 C0.2.1 hd (lvA_has hl) hq (of_add x n) (by rw [← hl.2.2.1]; exact h2) rfl (fun ls' hl' => W.widen hg.1 hg.2 (hk _ _ _ h H locs ls' hR hc hz hP hS ho (ok_set (v := .inl (w32 (x + n))) hol (w32_ok _)) (lvA_st1 (v := .inl (w32 (x + n))) hl h1 h2 rfl hl')))
    · exact h.elim
  · exact h.elim
theorem s_sub (C0 : CX p s m args meth c cc nL own D ca ad A) (hd : decode cc pc = .ok (.isub, 1)) (hg : gc pc ≤ gc (pc + 1) ∧ gs pc ≤ gs (pc + 1)) (hk : ∀ ls st M, k ls st M → JW p l e R s m args below meth c nL D ca ad A Qf gc gs bl (pc + 1) ls st M) : ∀ ls st M, tx_bin f_sub J Q k ls st M → JW p l e R s m args below meth c nL D ca ad A Qf gc gs bl pc ls st M :=
  s_bin C0 hg (fun _ _ _ _ => w32_ok _) (fun H locs lsA rest x y _ _ h => lv_isub C0.1 C0.2.1 hd (by rw [of_sub]; exact h)) hk
theorem s_mul (C0 : CX p s m args meth c cc nL own D ca ad A) (hd : decode cc pc = .ok (.imul, 1)) (hg : gc pc ≤ gc (pc + 1) ∧ gs pc ≤ gs (pc + 1)) (hk : ∀ ls st M, k ls st M → JW p l e R s m args below meth c nL D ca ad A Qf gc gs bl (pc + 1) ls st M) : ∀ ls st M, tx_bin f_mul J Q k ls st M → JW p l e R s m args below meth c nL D ca ad A Qf gc gs bl pc ls st M :=
  s_bin C0 hg (fun _ _ _ _ => w32_ok _) (fun H locs lsA rest x y hx hy h => lv_imul C0.1 C0.2.1 hd (by rw [of_mul hx hy]; exact h)) hk
theorem s_or (C0 : CX p s m args meth c cc nL own D ca ad A) (hd : decode cc pc = .ok (.ior, 1)) (hg : gc pc ≤ gc (pc + 1) ∧ gs pc ≤ gs (pc + 1)) (hk : ∀ ls st M, k ls st M → JW p l e R s m args below meth c nL D ca ad A Qf gc gs bl (pc + 1) ls st M) : ∀ ls st M, tx_bin orI J Q k ls st M → JW p l e R s m args below meth c nL D ca ad A Qf gc gs bl pc ls st M :=
  s_bin C0 hg (fun _ _ _ _ => ok_of _) (fun H locs lsA rest x y _ _ h => lv_ior C0.1 C0.2.1 hd (by rw [← as_of (_ ||| _)]; exact h)) hk
theorem s_xor (C0 : CX p s m args meth c cc nL own D ca ad A) (hd : decode cc pc = .ok (.ixor, 1)) (hg : gc pc ≤ gc (pc + 1) ∧ gs pc ≤ gs (pc + 1)) (hk : ∀ ls st M, k ls st M → JW p l e R s m args below meth c nL D ca ad A Qf gc gs bl (pc + 1) ls st M) : ∀ ls st M, tx_bin xorI J Q k ls st M → JW p l e R s m args below meth c nL D ca ad A Qf gc gs bl pc ls st M :=
  s_bin C0 hg (fun _ _ _ _ => ok_of _) (fun H locs lsA rest x y _ _ h => lv_ixor C0.1 C0.2.1 hd (by rw [← as_of (_ ^^^ _)]; exact h)) hk
theorem s_shl (C0 : CX p s m args meth c cc nL own D ca ad A) (hd : decode cc pc = .ok (.ishl, 1)) (hg : gc pc ≤ gc (pc + 1) ∧ gs pc ≤ gs (pc + 1)) (hk : ∀ ls st M, k ls st M → JW p l e R s m args below meth c nL D ca ad A Qf gc gs bl (pc + 1) ls st M) : ∀ ls st M, tx_bin shlI J Q k ls st M → JW p l e R s m args below meth c nL D ca ad A Qf gc gs bl pc ls st M :=
  s_bin C0 hg (fun _ _ _ _ => ok_of _) (fun H locs lsA rest x y _ _ h => lv_ishl C0.1 C0.2.1 hd (by rw [← as_of (_ <<< _)]; exact h)) hk
theorem s_shr (C0 : CX p s m args meth c cc nL own D ca ad A) (hd : decode cc pc = .ok (.ishr, 1)) (hg : gc pc ≤ gc (pc + 1) ∧ gs pc ≤ gs (pc + 1)) (hk : ∀ ls st M, k ls st M → JW p l e R s m args below meth c nL D ca ad A Qf gc gs bl (pc + 1) ls st M) : ∀ ls st M, tx_bin shrI J Q k ls st M → JW p l e R s m args below meth c nL D ca ad A Qf gc gs bl pc ls st M :=
  s_bin C0 hg (fun _ _ _ _ => ok_of _) (fun H locs lsA rest x y _ _ h => lv_ishr C0.1 C0.2.1 hd (by rw [← as_of (_ >>> _)]; exact h)) hk
theorem s_ush (C0 : CX p s m args meth c cc nL own D ca ad A) (hd : decode cc pc = .ok (.iushr, 1)) (hg : gc pc ≤ gc (pc + 1) ∧ gs pc ≤ gs (pc + 1)) (hk : ∀ ls st M, k ls st M → JW p l e R s m args below meth c nL D ca ad A Qf gc gs bl (pc + 1) ls st M) : ∀ ls st M, tx_bin ushI J Q k ls st M → JW p l e R s m args below meth c nL D ca ad A Qf gc gs bl pc ls st M :=
  s_bin C0 hg (fun _ _ _ _ => ok_of _) (fun H locs lsA rest x y _ _ h => lv_iushr C0.1 C0.2.1 hd (as_of _).symm h) hk
theorem s_div (C0 : CX p s m args meth c cc nL own D ca ad A) (hd : decode cc pc = .ok (.idiv, 1)) (hg : gc pc ≤ gc (pc + 1) ∧ gs pc ≤ gs (pc + 1)) (hk : ∀ ls st M, k ls st M → JW p l e R s m args below meth c nL D ca ad A Qf gc gs bl (pc + 1) ls st M) : ∀ ls st M, tx_div J Q k ls st M → JW p l e R s m args below meth c nL D ca ad A Qf gc gs bl pc ls st M := by
  intro ls st M h H locs lsA hR hc hz hP hS ho hol hl
  unfold tx_div at h
  split at h
  · rename_i y x st
    obtain ⟨hy0, h⟩ := h
    have hy : okI y := okh ho
    have hx : okI x := okh (okt ho)
    refine lv_idiv C0.1 C0.2.1 hd (fun q => hy0 ((of_inj hy okI_0).mp q)) ?_
    rw [of_div hx hy]
    exact W.widen hg.1 hg.2 (hk _ _ _ h H locs lsA hR hc hz hP hS (okc (v := .inl _) (w32_ok _) (okt (okt ho))) hol hl)
  · exact h.elim
theorem s_rem (C0 : CX p s m args meth c cc nL own D ca ad A) (hd : decode cc pc = .ok (.irem, 1)) (hg : gc pc ≤ gc (pc + 1) ∧ gs pc ≤ gs (pc + 1)) (hk : ∀ ls st M, k ls st M → JW p l e R s m args below meth c nL D ca ad A Qf gc gs bl (pc + 1) ls st M) : ∀ ls st M, tx_rem J Q k ls st M → JW p l e R s m args below meth c nL D ca ad A Qf gc gs bl pc ls st M := by
  intro ls st M h H locs lsA hR hc hz hP hS ho hol hl
  unfold tx_rem at h
  split at h
  · rename_i y x st
    obtain ⟨hy0, h⟩ := h
    have hy : okI y := okh ho
    have hx : okI x := okh (okt ho)
    refine lv_irem C0.1 C0.2.1 hd (fun q => hy0 ((of_inj hy okI_0).mp q)) ?_
    rw [of_rem hx hy]
    exact W.widen hg.1 hg.2 (hk _ _ _ h H locs lsA hR hc hz hP hS (okc (v := .inl _) (w32_ok _) (okt (okt ho))) hol hl)
  · exact h.elim
theorem s_neg (C0 : CX p s m args meth c cc nL own D ca ad A) (hd : decode cc pc = .ok (.ineg, 1)) (hg : gc pc ≤ gc (pc + 1) ∧ gs pc ≤ gs (pc + 1)) (hk : ∀ ls st M, k ls st M → JW p l e R s m args below meth c nL D ca ad A Qf gc gs bl (pc + 1) ls st M) : ∀ ls st M, tx_neg J Q k ls st M → JW p l e R s m args below meth c nL D ca ad A Qf gc gs bl pc ls st M := by
  intro ls st M h H locs lsA hR hc hz hP hS ho hol hl
  unfold tx_neg at h
  split at h
  · rename_i x st
    refine lv_ineg C0.1 C0.2.1 hd ?_
    rw [of_neg]
    exact W.widen hg.1 hg.2 (hk _ _ _ h H locs lsA hR hc hz hP hS (okc (v := .inl _) (w32_ok _) (okt ho)) hol hl)
  · exact h.elim
theorem s_i2b (C0 : CX p s m args meth c cc nL own D ca ad A) (hd : decode cc pc = .ok (.i2b, 1)) (hg : gc pc ≤ gc (pc + 1) ∧ gs pc ≤ gs (pc + 1)) (hk : ∀ ls st M, k ls st M → JW p l e R s m args below meth c nL D ca ad A Qf gc gs bl (pc + 1) ls st M) : ∀ ls st M, tx_i2b J Q k ls st M → JW p l e R s m args below meth c nL D ca ad A Qf gc gs bl pc ls st M := by
  intro ls st M h H locs lsA hR hc hz hP hS ho hol hl
  unfold tx_i2b at h
  split at h
  · rename_i x st
    exact lv_i2b C0.1 C0.2.1 hd (of_byte x) (W.widen hg.1 hg.2 (hk _ _ _ h H locs lsA hR hc hz hP hS (okc (v := .inl _) (w8_ok _) (okt ho)) hol hl))
  · exact h.elim
theorem s_i2l (C0 : CX p s m args meth c cc nL own D ca ad A) (hd : decode cc pc = .ok (.i2l, 1)) (hg : gc pc ≤ gc (pc + 1) ∧ gs pc ≤ gs (pc + 1)) (hk : ∀ ls st M, k ls st M → JW p l e R s m args below meth c nL D ca ad A Qf gc gs bl (pc + 1) ls st M) : ∀ ls st M, tx_i2l J Q k ls st M → JW p l e R s m args below meth c nL D ca ad A Qf gc gs bl pc ls st M := by
  intro ls st M h H locs lsA hR hc hz hP hS ho hol hl
  unfold tx_i2l at h
  split at h
  · rename_i x st
    exact lv_i2l C0.1 C0.2.1 hd (of_long (okh ho)) (W.widen hg.1 hg.2 (hk _ _ _ h H locs lsA hR hc hz hP hS (okc (v := .inr (.inr (.inl x))) (okI_L (okh ho)) (okt ho)) hol hl))
  · exact h.elim
theorem s_ladd (C0 : CX p s m args meth c cc nL own D ca ad A) (hd : decode cc pc = .ok (.ladd, 1)) (hg : gc pc ≤ gc (pc + 1) ∧ gs pc ≤ gs (pc + 1)) (hk : ∀ ls st M, k ls st M → JW p l e R s m args below meth c nL D ca ad A Qf gc gs bl (pc + 1) ls st M) : ∀ ls st M, tx_lbin f_addL J Q k ls st M → JW p l e R s m args below meth c nL D ca ad A Qf gc gs bl pc ls st M := by
  intro ls st M h H locs lsA hR hc hz hP hS ho hol hl
  unfold tx_lbin at h
  split at h
  · rename_i y x st
    refine lv_ladd C0.1 C0.2.1 hd ?_
    rw [of_addL]
    exact W.widen hg.1 hg.2 (hk _ _ _ h H locs lsA hR hc hz hP hS (okc (v := .inr (.inr (.inl _))) (w64_ok _) (okt (okt ho))) hol hl)
  · exact h.elim
theorem s_lsub (C0 : CX p s m args meth c cc nL own D ca ad A) (hd : decode cc pc = .ok (.lsub, 1)) (hg : gc pc ≤ gc (pc + 1) ∧ gs pc ≤ gs (pc + 1)) (hk : ∀ ls st M, k ls st M → JW p l e R s m args below meth c nL D ca ad A Qf gc gs bl (pc + 1) ls st M) : ∀ ls st M, tx_lbin f_subL J Q k ls st M → JW p l e R s m args below meth c nL D ca ad A Qf gc gs bl pc ls st M := by
  intro ls st M h H locs lsA hR hc hz hP hS ho hol hl
  unfold tx_lbin at h
  split at h
  · rename_i y x st
    refine lv_lsub C0.1 C0.2.1 hd ?_
    rw [of_subL]
    exact W.widen hg.1 hg.2 (hk _ _ _ h H locs lsA hR hc hz hP hS (okc (v := .inr (.inr (.inl _))) (w64_ok _) (okt (okt ho))) hol hl)
  · exact h.elim
theorem s_lmul (C0 : CX p s m args meth c cc nL own D ca ad A) (hd : decode cc pc = .ok (.lmul, 1)) (hg : gc pc ≤ gc (pc + 1) ∧ gs pc ≤ gs (pc + 1)) (hk : ∀ ls st M, k ls st M → JW p l e R s m args below meth c nL D ca ad A Qf gc gs bl (pc + 1) ls st M) : ∀ ls st M, tx_lbin f_mulL J Q k ls st M → JW p l e R s m args below meth c nL D ca ad A Qf gc gs bl pc ls st M := by
  intro ls st M h H locs lsA hR hc hz hP hS ho hol hl
  unfold tx_lbin at h
  split at h
  · rename_i y x st
    refine lv_lmul C0.1 C0.2.1 hd ?_
    rw [of_mulL (x := x) (y := y) (okh (okt ho)) (okh ho)]
    exact W.widen hg.1 hg.2 (hk _ _ _ h H locs lsA hR hc hz hP hS (okc (v := .inr (.inr (.inl _))) (w64_ok _) (okt (okt ho))) hol hl)
  · exact h.elim
theorem s_lcmp (C0 : CX p s m args meth c cc nL own D ca ad A) (hd : decode cc pc = .ok (.lcmp, 1)) (hg : gc pc ≤ gc (pc + 1) ∧ gs pc ≤ gs (pc + 1)) (hk : ∀ ls st M, k ls st M → JW p l e R s m args below meth c nL D ca ad A Qf gc gs bl (pc + 1) ls st M) : ∀ ls st M, tx_lcmp J Q k ls st M → JW p l e R s m args below meth c nL D ca ad A Qf gc gs bl pc ls st M := by
  intro ls st M h H locs lsA hR hc hz hP hS ho hol hl
  unfold tx_lcmp at h
  split at h
  · rename_i y x st
    refine W.lcmp C0.1 C0.2.1 hd ?_
    rw [of_cmpL (x := x) (y := y) (okh (okt ho)) (okh ho)]
    exact W.widen hg.1 hg.2 (hk _ _ _ h H locs lsA hR hc hz hP hS (okc (v := .inl _) (cmpL_ok _ _) (okt (okt ho))) hol hl)
  · exact h.elim
theorem s_dup (C0 : CX p s m args meth c cc nL own D ca ad A) (hd : decode cc pc = .ok (.dup, 1)) (hg : gc pc ≤ gc (pc + 1) ∧ gs pc ≤ gs (pc + 1)) (hk : ∀ ls st M, k ls st M → JW p l e R s m args below meth c nL D ca ad A Qf gc gs bl (pc + 1) ls st M) : ∀ ls st M, tx_dup J Q k ls st M → JW p l e R s m args below meth c nL D ca ad A Qf gc gs bl pc ls st M := by
  intro ls st M h H locs lsA hR hc hz hP hS ho hol hl
  unfold tx_dup at h
  split at h
  · rename_i x st
    exact lv_dup (va := .int (Int32.ofInt x)) C0.1 C0.2.1 hd rfl (W.widen hg.1 hg.2 (hk _ _ _ h H locs lsA hR hc hz hP hS (okc (okh ho) ho) hol hl))
  · rename_i x st
    exact lv_dup (va := .ref (ad x)) C0.1 C0.2.1 hd rfl (W.widen hg.1 hg.2 (hk _ _ _ h H locs lsA hR hc hz hP hS (okc (okh ho) ho) hol hl))
  · exact h.elim
theorem s_dup2 (C0 : CX p s m args meth c cc nL own D ca ad A) (hd : decode cc pc = .ok (.dup2, 1)) (hg : gc pc ≤ gc (pc + 1) ∧ gs pc ≤ gs (pc + 1)) (hk : ∀ ls st M, k ls st M → JW p l e R s m args below meth c nL D ca ad A Qf gc gs bl (pc + 1) ls st M) : ∀ ls st M, tx_dup2 J Q k ls st M → JW p l e R s m args below meth c nL D ca ad A Qf gc gs bl pc ls st M := by
  intro ls st M h H locs lsA hR hc hz hP hS ho hol hl
  unfold tx_dup2 at h
  split at h
  · rename_i x y st
    exact lv_dup2_11 (va := .int (Int32.ofInt x)) (vb := .ref (ad y)) C0.1 C0.2.1 hd rfl rfl (W.widen hg.1 hg.2 (hk _ _ _ h H locs lsA hR hc hz hP hS (okc (okh ho) (okc (okh (okt ho)) ho)) hol hl))
  · exact h.elim
end Rules2
