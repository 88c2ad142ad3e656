--BLTRUE
section Rules4
variable {p : Program} {l : Launch} {e : Env} {R : Room} {s : State} {m : MethodId} {args : Array Value} {below : List Frame} {meth : Method} {c : Code} {cc : ByteArray} {nL : Nat} {own : String} {D : va_G} {ca : Nat → ClassId} {ad : Nat → Nat} {A : Nat → Prop} {Qf : State → Prop} {gc gs : Nat → Nat} {bl : Bool}
variable {J : JT} {Q : QT} {k : Kt} {pc nx : Nat}
theorem cnt_t {M : Mem} : cnt true M = 337 := rfl
theorem el_ob {b : Bool} {M : Mem} {a c0 : Nat} (h : OB a c0) : el b ca ad M a = .inr (c0, (List.range (NF c0)).map (fun j => fv b ad a c0 j (M a j))) := by
  unfold el
  rw [if_pos h.1, h.2]
theorem ob_lt {a c0 : Nat} (h : OB a c0) : a < 337 := SH_lt h.1 (by decide)
theorem mk_ob {M : Mem} {a c0 : Nat} (h : OB a c0) : (mk true ca ad M)[a]? = some (ad a, .inr (c0, (List.range (NF c0)).map (fun j => fv true ad a c0 j (M a j)))) := by
  rw [mk_at (by rw [cnt_t]; exact ob_lt h), el_ob h]
theorem fv_i {b : Bool} {a c0 j : Nat} {x : Int} (h : (FK c0 j).1 < 2) : fv b ad a c0 j x = .int (Int32.ofInt x) := by
  unfold fv
  rw [if_neg (by omega), if_neg (by omega)]
theorem fv_r {a c0 j off : Nat} {x : Int} (h : FK c0 j = (2, off)) : fv true ad a c0 j x = .ref (ad (a + off)) := by
  unfold fv
  rw [if_pos (by rw [h]), if_neg (by simp), h]
theorem fv_m {a c0 j : Nat} {x : Int} (h : (FK c0 j).1 = 3) : fv true ad a c0 j x = .ref (ad x.toNat) := by
  unfold fv
  rw [if_neg (by omega), if_pos h, if_neg (by simp)]
theorem fs_at {f : Nat → Value} {n j : Nat} (h : j < n) : ((List.range n).map f)[j]? = some (f j) := by
  rw [List.getElem?_map, List.getElem?_range h]
  rfl
theorem fs_set {f g : Nat → Value} {n j : Nat} {v : Value} (hj : g j = v) (hne : ∀ i, i ≠ j → g i = f i) : ((List.range n).map f).set j v = (List.range n).map g := by
  apply List.ext_getElem?
  intro i
  by_cases hi : i < n
  · rw [fs_at hi]
    by_cases e : j = i
    · subst e
      rw [List.getElem?_set_self (by rw [List.length_map, List.length_range]; exact hi), hj]
    · rw [List.getElem?_set_ne e, fs_at hi, hne i (fun q => e q.symm)]
  · rw [List.getElem?_eq_none (by rw [List.length_set, List.length_map, List.length_range]; omega), List.getElem?_eq_none (by rw [List.length_map, List.length_range]; omega)]
theorem up_eq {M : Mem} {a j : Nat} {v : Int} : up M a j v a j = v := by
  unfold up
  rw [if_pos ⟨rfl, rfl⟩]
theorem up_ne {M : Mem} {a j x y : Nat} {v : Int} (h : ¬ (x = a ∧ y = j)) : up M a j v x y = M x y := by
  unfold up
  rw [if_neg h]
theorem el_obset {M : Mem} {a c0 j : Nat} {v : Int} (h : OB a c0) : el true ca ad (up M a j v) a = .inr (c0, ((List.range (NF c0)).map (fun i => fv true ad a c0 i (M a i))).set j (fv true ad a c0 j v)) := by
  rw [el_ob h, fs_set (g := fun i => fv true ad a c0 i (up M a j v a i))]
  · rw [up_eq]
  · intro i hi
    rw [up_ne (fun q => hi q.2)]
/-- fields read: through a link of the own, or of a nest mate -/
theorem s_gi (C0 : CX p s m args meth c cc nL own D ca ad A) {c0 j idx N : Nat} {C : String} {T : u_T} (hcl : vwCl[c0]? = some (C, T, N)) (hin : ∀ w ∈ u_ws C T N, w ∈ GT) (hj : j < N) (hN : NF c0 = N) (hF : (FK c0 j).1 < 2) (hw : Cond.fieldLink own idx (T j).1 (T j).2.1 (T j).2.2.1 ∈ GT) (hd : decode cc pc = .ok (.getfield idx, 3)) (hg : gc pc ≤ gc (pc + 3) ∧ gs pc ≤ gs (pc + 3)) (hk : ∀ ls st M, k ls st M → JW p l e R s m args below meth c nL D ca ad A Qf gc gs true (pc + 3) ls st M) : ∀ ls st M, tx_gi c0 j J Q k ls st M → JW p l e R s m args below meth c nL D ca ad A Qf gc gs true pc ls st M := by
  intro ls st M h H locs lsA hR hc hz hP hS ho hol hl
  unfold tx_gi at h
  split at h
  · rename_i a st
    obtain ⟨hob, h⟩ := h
    refine va_get (v := .int (Int32.ofInt (M a j))) C0.1 C0.2.1 C0.2.2.2.2.1 hin C0.2.2.2.1 C0.2.2.2.2.2.2.1 hP a (mk_ob hob) hcl j hj (C0.2.2.2.2.1 _ hw) (fun _ q => q) ?_ hd (W.widen hg.1 hg.2 (hk _ _ _ h H locs lsA hR hc hz hP hS (okc (v := .inl _) (rng_I hR (by rw [hob.1]; decide) j) (okt ho)) hol hl))
    rw [fs_at (by rw [hN]; exact hj), fv_i hF]
  · exact h.elim
theorem s_giN (C0 : CX p s m args meth c cc nL own D ca ad A) {c0 j idx N : Nat} {C host : String} {T : u_T} (hcl : vwCl[c0]? = some (C, T, N)) (hin : ∀ w ∈ u_ws C T N, w ∈ GT) (hj : j < N) (hN : NF c0 = N) (hF : (FK c0 j).1 < 2) (hw : Cond.fieldLinkNest own idx (T j).1 (T j).2.1 (T j).2.2.1 host ∈ NT) (hd : decode cc pc = .ok (.getfield idx, 3)) (hg : gc pc ≤ gc (pc + 3) ∧ gs pc ≤ gs (pc + 3)) (hk : ∀ ls st M, k ls st M → JW p l e R s m args below meth c nL D ca ad A Qf gc gs true (pc + 3) ls st M) : ∀ ls st M, tx_gi c0 j J Q k ls st M → JW p l e R s m args below meth c nL D ca ad A Qf gc gs true pc ls st M := by
  intro ls st M h H locs lsA hR hc hz hP hS ho hol hl
  unfold tx_gi at h
  split at h
  · rename_i a st
    obtain ⟨hob, h⟩ := h
    refine va_getN (v := .int (Int32.ofInt (M a j))) C0.1 C0.2.1 C0.2.2.2.2.1 hin C0.2.2.2.1 C0.2.2.2.2.2.2.1 hP a (mk_ob hob) hcl j hj (va_Nw.use rfl (C0.2.2.2.2.2.1 _ hw)) (fun _ q => q) ?_ hd (W.widen hg.1 hg.2 (hk _ _ _ h H locs lsA hR hc hz hP hS (okc (v := .inl _) (rng_I hR (by rw [hob.1]; decide) j) (okt ho)) hol hl))
    rw [fs_at (by rw [hN]; exact hj), fv_i hF]
  · exact h.elim
theorem s_gr (C0 : CX p s m args meth c cc nL own D ca ad A) {c0 j off idx N : Nat} {C : String} {T : u_T} (hcl : vwCl[c0]? = some (C, T, N)) (hin : ∀ w ∈ u_ws C T N, w ∈ GT) (hj : j < N) (hN : NF c0 = N) (hF : FK c0 j = (2, off)) (hw : Cond.fieldLink own idx (T j).1 (T j).2.1 (T j).2.2.1 ∈ GT) (hd : decode cc pc = .ok (.getfield idx, 3)) (hg : gc pc ≤ gc (pc + 3) ∧ gs pc ≤ gs (pc + 3)) (hk : ∀ ls st M, k ls st M → JW p l e R s m args below meth c nL D ca ad A Qf gc gs true (pc + 3) ls st M) : ∀ ls st M, tx_gr c0 off J Q k ls st M → JW p l e R s m args below meth c nL D ca ad A Qf gc gs true pc ls st M := by
  intro ls st M h H locs lsA hR hc hz hP hS ho hol hl
  unfold tx_gr at h
  split at h
  · rename_i a st
    obtain ⟨hob, h⟩ := h
    refine va_get (v := .ref (ad (a + off))) C0.1 C0.2.1 C0.2.2.2.2.1 hin C0.2.2.2.1 C0.2.2.2.2.2.2.1 hP a (mk_ob hob) hcl j hj (C0.2.2.2.2.1 _ hw) (fun _ q => q) ?_ hd (W.widen hg.1 hg.2 (hk _ _ _ h H locs lsA hR hc hz hP hS (okc (v := .inr (.inl _)) trivial (okt ho)) hol hl))
    rw [fs_at (by rw [hN]; exact hj), fv_r hF]
  · exact h.elim
theorem s_grN (C0 : CX p s m args meth c cc nL own D ca ad A) {c0 j off idx N : Nat} {C host : String} {T : u_T} (hcl : vwCl[c0]? = some (C, T, N)) (hin : ∀ w ∈ u_ws C T N, w ∈ GT) (hj : j < N) (hN : NF c0 = N) (hF : FK c0 j = (2, off)) (hw : Cond.fieldLinkNest own idx (T j).1 (T j).2.1 (T j).2.2.1 host ∈ NT) (hd : decode cc pc = .ok (.getfield idx, 3)) (hg : gc pc ≤ gc (pc + 3) ∧ gs pc ≤ gs (pc + 3)) (hk : ∀ ls st M, k ls st M → JW p l e R s m args below meth c nL D ca ad A Qf gc gs true (pc + 3) ls st M) : ∀ ls st M, tx_gr c0 off J Q k ls st M → JW p l e R s m args below meth c nL D ca ad A Qf gc gs true pc ls st M := by
  intro ls st M h H locs lsA hR hc hz hP hS ho hol hl
  unfold tx_gr at h
  split at h
  · rename_i a st
    obtain ⟨hob, h⟩ := h
    refine va_getN (v := .ref (ad (a + off))) C0.1 C0.2.1 C0.2.2.2.2.1 hin C0.2.2.2.1 C0.2.2.2.2.2.2.1 hP a (mk_ob hob) hcl j hj (va_Nw.use rfl (C0.2.2.2.2.2.1 _ hw)) (fun _ q => q) ?_ hd (W.widen hg.1 hg.2 (hk _ _ _ h H locs lsA hR hc hz hP hS (okc (v := .inr (.inl _)) trivial (okt ho)) hol hl))
    rw [fs_at (by rw [hN]; exact hj), fv_r hF]
  · exact h.elim
theorem s_gm (C0 : CX p s m args meth c cc nL own D ca ad A) {c0 j idx N : Nat} {C : String} {T : u_T} (hcl : vwCl[c0]? = some (C, T, N)) (hin : ∀ w ∈ u_ws C T N, w ∈ GT) (hj : j < N) (hN : NF c0 = N) (hF : (FK c0 j).1 = 3) (hw : Cond.fieldLink own idx (T j).1 (T j).2.1 (T j).2.2.1 ∈ GT) (hd : decode cc pc = .ok (.getfield idx, 3)) (hg : gc pc ≤ gc (pc + 3) ∧ gs pc ≤ gs (pc + 3)) (hk : ∀ ls st M, k ls st M → JW p l e R s m args below meth c nL D ca ad A Qf gc gs true (pc + 3) ls st M) : ∀ ls st M, tx_gm c0 j J Q k ls st M → JW p l e R s m args below meth c nL D ca ad A Qf gc gs true pc ls st M := by
  intro ls st M h H locs lsA hR hc hz hP hS ho hol hl
  unfold tx_gm at h
  split at h
  · rename_i a st
    obtain ⟨hob, h⟩ := h
    refine va_get (v := .ref (ad (M a j).toNat)) C0.1 C0.2.1 C0.2.2.2.2.1 hin C0.2.2.2.1 C0.2.2.2.2.2.2.1 hP a (mk_ob hob) hcl j hj (C0.2.2.2.2.1 _ hw) (fun _ q => q) ?_ hd (W.widen hg.1 hg.2 (hk _ _ _ h H locs lsA hR hc hz hP hS (okc (v := .inr (.inl _)) trivial (okt ho)) hol hl))
    rw [fs_at (by rw [hN]; exact hj), fv_m hF]
  · exact h.elim
theorem s_gmN (C0 : CX p s m args meth c cc nL own D ca ad A) {c0 j idx N : Nat} {C host : String} {T : u_T} (hcl : vwCl[c0]? = some (C, T, N)) (hin : ∀ w ∈ u_ws C T N, w ∈ GT) (hj : j < N) (hN : NF c0 = N) (hF : (FK c0 j).1 = 3) (hw : Cond.fieldLinkNest own idx (T j).1 (T j).2.1 (T j).2.2.1 host ∈ NT) (hd : decode cc pc = .ok (.getfield idx, 3)) (hg : gc pc ≤ gc (pc + 3) ∧ gs pc ≤ gs (pc + 3)) (hk : ∀ ls st M, k ls st M → JW p l e R s m args below meth c nL D ca ad A Qf gc gs true (pc + 3) ls st M) : ∀ ls st M, tx_gm c0 j J Q k ls st M → JW p l e R s m args below meth c nL D ca ad A Qf gc gs true pc ls st M := by
  intro ls st M h H locs lsA hR hc hz hP hS ho hol hl
  unfold tx_gm at h
  split at h
  · rename_i a st
    obtain ⟨hob, h⟩ := h
    refine va_getN (v := .ref (ad (M a j).toNat)) C0.1 C0.2.1 C0.2.2.2.2.1 hin C0.2.2.2.1 C0.2.2.2.2.2.2.1 hP a (mk_ob hob) hcl j hj (va_Nw.use rfl (C0.2.2.2.2.2.1 _ hw)) (fun _ q => q) ?_ hd (W.widen hg.1 hg.2 (hk _ _ _ h H locs lsA hR hc hz hP hS (okc (v := .inr (.inl _)) trivial (okt ho)) hol hl))
    rw [fs_at (by rw [hN]; exact hj), fv_m hF]
  · exact h.elim
/-- fields written -/
theorem s_pi (C0 : CX p s m args meth c cc nL own D ca ad A) {c0 j idx N : Nat} {C : String} {T : u_T} {ty0 : Nat → FieldType} (hcl : vwCl[c0]? = some (C, T, N)) (hin : ∀ w ∈ u_ws C T N, w ∈ GT) (hty : ∀ k, k < N → parseFieldDescriptor (T k).2.2.1 = some (ty0 k)) (hnm : ∀ a, a < N → ∀ b, b < N → a ≠ b → (T a).2.1 ≠ (T b).2.1) (hj : j < N) (hN : NF c0 = N) (hF : (FK c0 j).1 < 2) (hfin : (T j).2.2.2 = false) (hti : ty0 j = .int) (hw : Cond.fieldLink own idx (T j).1 (T j).2.1 (T j).2.2.1 ∈ GT) (hd : decode cc pc = .ok (.putfield idx, 3)) (hg : gc pc ≤ gc (pc + 3) ∧ gs pc ≤ gs (pc + 3)) (hk : ∀ ls st M, k ls st M → JW p l e R s m args below meth c nL D ca ad A Qf gc gs true (pc + 3) ls st M) : ∀ ls st M, tx_pi c0 j J Q k ls st M → JW p l e R s m args below meth c nL D ca ad A Qf gc gs true pc ls st M := by
  intro ls st M h H locs lsA hR hc hz hP hS ho hol hl
  unfold tx_pi at h
  split at h
  · rename_i v a st
    obtain ⟨hob, h⟩ := h
    refine va_put (ty := .int) C0.1 C0.2.1 C0.2.2.2.2.1 hin ty0 hty hnm C0.2.2.2.1 C0.2.2.2.2.2.2.1 hP (mk_D hc C0.2.2.2.2.2.2.2.1 C0.2.2.2.2.2.2.2.2.1) hS a (mk_ob hob) hcl j hj (C0.2.2.2.2.1 _ hw) (fun _ q => q) hfin (by rw [hty j hj, hti]) rfl rfl (by rw [List.length_map, List.length_range, hN]; exact hj) hd ?_
    intro H1 locs1 hP1 _ hS1
    have e : el true ca ad (up M a j v) a = .inr (c0, ((List.range (NF c0)).map (fun i => fv true ad a c0 i (M a i))).set j (vv ad (.inl v))) := by rw [el_obset hob, fv_i hF]; rfl
    rw [mk_set (Nat.ne_of_lt (ob_lt hob)) e] at hP1
    exact W.widen hg.1 hg.2 (hk _ _ _ h H1 locs1 lsA (rng_up hR (by rw [hob.1]; decide) (okh ho)) (Nat.le_refl _) (fun q => nomatch q) hP1 hS1 (okt (okt ho)) hol hl)
  · exact h.elim
theorem s_piN (C0 : CX p s m args meth c cc nL own D ca ad A) {c0 j idx N : Nat} {C host : String} {T : u_T} {ty0 : Nat → FieldType} (hcl : vwCl[c0]? = some (C, T, N)) (hin : ∀ w ∈ u_ws C T N, w ∈ GT) (hty : ∀ k, k < N → parseFieldDescriptor (T k).2.2.1 = some (ty0 k)) (hnm : ∀ a, a < N → ∀ b, b < N → a ≠ b → (T a).2.1 ≠ (T b).2.1) (hj : j < N) (hN : NF c0 = N) (hF : (FK c0 j).1 < 2) (hfin : (T j).2.2.2 = false) (hti : ty0 j = .int) (hw : Cond.fieldLinkNest own idx (T j).1 (T j).2.1 (T j).2.2.1 host ∈ NT) (hd : decode cc pc = .ok (.putfield idx, 3)) (hg : gc pc ≤ gc (pc + 3) ∧ gs pc ≤ gs (pc + 3)) (hk : ∀ ls st M, k ls st M → JW p l e R s m args below meth c nL D ca ad A Qf gc gs true (pc + 3) ls st M) : ∀ ls st M, tx_pi c0 j J Q k ls st M → JW p l e R s m args below meth c nL D ca ad A Qf gc gs true pc ls st M := by
  intro ls st M h H locs lsA hR hc hz hP hS ho hol hl
  unfold tx_pi at h
  split at h
  · rename_i v a st
    obtain ⟨hob, h⟩ := h
    refine va_putN (ty := .int) C0.1 C0.2.1 C0.2.2.2.2.1 hin ty0 hty hnm C0.2.2.2.1 C0.2.2.2.2.2.2.1 hP (mk_D hc C0.2.2.2.2.2.2.2.1 C0.2.2.2.2.2.2.2.2.1) hS a (mk_ob hob) hcl j hj (va_Nw.use rfl (C0.2.2.2.2.2.1 _ hw)) (fun _ q => q) hfin (by rw [hty j hj, hti]) rfl rfl (by rw [List.length_map, List.length_range, hN]; exact hj) hd ?_
    intro H1 locs1 hP1 _ hS1
    have e : el true ca ad (up M a j v) a = .inr (c0, ((List.range (NF c0)).map (fun i => fv true ad a c0 i (M a i))).set j (vv ad (.inl v))) := by rw [el_obset hob, fv_i hF]; rfl
    rw [mk_set (Nat.ne_of_lt (ob_lt hob)) e] at hP1
    exact W.widen hg.1 hg.2 (hk _ _ _ h H1 locs1 lsA (rng_up hR (by rw [hob.1]; decide) (okh ho)) (Nat.le_refl _) (fun q => nomatch q) hP1 hS1 (okt (okt ho)) hol hl)
  · exact h.elim
theorem zf {v : Int} (h : v = 0 ∨ v = 1) : narrow .boolean (.int (Int32.ofInt v)) = .int (Int32.ofInt v) ∧ fits .boolean (.int (Int32.ofInt v)) = true ∧ vp_nar .boolean (Int32.ofInt v) = Int32.ofInt v := by
  rcases h with rfl | rfl <;> exact ⟨by decide, by decide, by decide⟩
theorem s_pz (C0 : CX p s m args meth c cc nL own D ca ad A) {c0 j idx N : Nat} {C : String} {T : u_T} {ty0 : Nat → FieldType} (hcl : vwCl[c0]? = some (C, T, N)) (hin : ∀ w ∈ u_ws C T N, w ∈ GT) (hty : ∀ k, k < N → parseFieldDescriptor (T k).2.2.1 = some (ty0 k)) (hnm : ∀ a, a < N → ∀ b, b < N → a ≠ b → (T a).2.1 ≠ (T b).2.1) (hj : j < N) (hN : NF c0 = N) (hF : (FK c0 j).1 < 2) (hfin : (T j).2.2.2 = false) (hti : ty0 j = .boolean) (hw : Cond.fieldLink own idx (T j).1 (T j).2.1 (T j).2.2.1 ∈ GT) (hd : decode cc pc = .ok (.putfield idx, 3)) (hg : gc pc ≤ gc (pc + 3) ∧ gs pc ≤ gs (pc + 3)) (hk : ∀ ls st M, k ls st M → JW p l e R s m args below meth c nL D ca ad A Qf gc gs true (pc + 3) ls st M) : ∀ ls st M, tx_pz c0 j J Q k ls st M → JW p l e R s m args below meth c nL D ca ad A Qf gc gs true pc ls st M := by
  intro ls st M h H locs lsA hR hc hz hP hS ho hol hl
  unfold tx_pz at h
  split at h
  · rename_i v a st
    obtain ⟨hob, hv, h⟩ := h
    refine va_put (ty := .boolean) C0.1 C0.2.1 C0.2.2.2.2.1 hin ty0 hty hnm C0.2.2.2.1 C0.2.2.2.2.2.2.1 hP (mk_D hc C0.2.2.2.2.2.2.2.1 C0.2.2.2.2.2.2.2.2.1) hS a (mk_ob hob) hcl j hj (C0.2.2.2.2.1 _ hw) (fun _ q => q) hfin (by rw [hty j hj, hti]) (zf hv).1 (zf hv).2.1 (by rw [List.length_map, List.length_range, hN]; exact hj) hd ?_
    intro H1 locs1 hP1 _ hS1
    have e : el true ca ad (up M a j v) a = .inr (c0, ((List.range (NF c0)).map (fun i => fv true ad a c0 i (M a i))).set j (vv ad (.inl v))) := by rw [el_obset hob, fv_i hF]; rfl
    rw [mk_set (Nat.ne_of_lt (ob_lt hob)) e] at hP1
    exact W.widen hg.1 hg.2 (hk _ _ _ h H1 locs1 lsA (rng_up hR (by rw [hob.1]; decide) (okh ho)) (Nat.le_refl _) (fun q => nomatch q) hP1 hS1 (okt (okt ho)) hol hl)
  · exact h.elim
theorem s_pzN (C0 : CX p s m args meth c cc nL own D ca ad A) {c0 j idx N : Nat} {C host : String} {T : u_T} {ty0 : Nat → FieldType} (hcl : vwCl[c0]? = some (C, T, N)) (hin : ∀ w ∈ u_ws C T N, w ∈ GT) (hty : ∀ k, k < N → parseFieldDescriptor (T k).2.2.1 = some (ty0 k)) (hnm : ∀ a, a < N → ∀ b, b < N → a ≠ b → (T a).2.1 ≠ (T b).2.1) (hj : j < N) (hN : NF c0 = N) (hF : (FK c0 j).1 < 2) (hfin : (T j).2.2.2 = false) (hti : ty0 j = .boolean) (hw : Cond.fieldLinkNest own idx (T j).1 (T j).2.1 (T j).2.2.1 host ∈ NT) (hd : decode cc pc = .ok (.putfield idx, 3)) (hg : gc pc ≤ gc (pc + 3) ∧ gs pc ≤ gs (pc + 3)) (hk : ∀ ls st M, k ls st M → JW p l e R s m args below meth c nL D ca ad A Qf gc gs true (pc + 3) ls st M) : ∀ ls st M, tx_pz c0 j J Q k ls st M → JW p l e R s m args below meth c nL D ca ad A Qf gc gs true pc ls st M := by
  intro ls st M h H locs lsA hR hc hz hP hS ho hol hl
  unfold tx_pz at h
  split at h
  · rename_i v a st
    obtain ⟨hob, hv, h⟩ := h
    refine va_putN (ty := .boolean) C0.1 C0.2.1 C0.2.2.2.2.1 hin ty0 hty hnm C0.2.2.2.1 C0.2.2.2.2.2.2.1 hP (mk_D hc C0.2.2.2.2.2.2.2.1 C0.2.2.2.2.2.2.2.2.1) hS a (mk_ob hob) hcl j hj (va_Nw.use rfl (C0.2.2.2.2.2.1 _ hw)) (fun _ q => q) hfin (by rw [hty j hj, hti]) (zf hv).1 (zf hv).2.1 (by rw [List.length_map, List.length_range, hN]; exact hj) hd ?_
    intro H1 locs1 hP1 _ hS1
    have e : el true ca ad (up M a j v) a = .inr (c0, ((List.range (NF c0)).map (fun i => fv true ad a c0 i (M a i))).set j (vv ad (.inl v))) := by rw [el_obset hob, fv_i hF]; rfl
    rw [mk_set (Nat.ne_of_lt (ob_lt hob)) e] at hP1
    exact W.widen hg.1 hg.2 (hk _ _ _ h H1 locs1 lsA (rng_up hR (by rw [hob.1]; decide) (okh ho)) (Nat.le_refl _) (fun q => nomatch q) hP1 hS1 (okt (okt ho)) hol hl)
  · exact h.elim
theorem s_pm (C0 : CX p s m args meth c cc nL own D ca ad A) {c0 j idx N : Nat} {C B : String} {T : u_T} {ty0 : Nat → FieldType} (hcl : vwCl[c0]? = some (C, T, N)) (hin : ∀ w ∈ u_ws C T N, w ∈ GT) (hty : ∀ k, k < N → parseFieldDescriptor (T k).2.2.1 = some (ty0 k)) (hnm : ∀ a, a < N → ∀ b, b < N → a ≠ b → (T a).2.1 ≠ (T b).2.1) (hj : j < N) (hN : NF c0 = N) (hF : (FK c0 j).1 = 3) (hfin : (T j).2.2.2 = false) (hti : ty0 j = .object B) (hw : Cond.fieldLink own idx (T j).1 (T j).2.1 (T j).2.2.1 ∈ GT) (hd : decode cc pc = .ok (.putfield idx, 3)) (hg : gc pc ≤ gc (pc + 3) ∧ gs pc ≤ gs (pc + 3)) (hk : ∀ ls st M, k ls st M → JW p l e R s m args below meth c nL D ca ad A Qf gc gs true (pc + 3) ls st M) : ∀ ls st M, tx_pm c0 j J Q k ls st M → JW p l e R s m args below meth c nL D ca ad A Qf gc gs true pc ls st M := by
  intro ls st M h H locs lsA hR hc hz hP hS ho hol hl
  unfold tx_pm at h
  split at h
  · rename_i v a st
    obtain ⟨hob, hv, h⟩ := h
    refine va_put (ty := .object B) C0.1 C0.2.1 C0.2.2.2.2.1 hin ty0 hty hnm C0.2.2.2.1 C0.2.2.2.2.2.2.1 hP (mk_D hc C0.2.2.2.2.2.2.2.1 C0.2.2.2.2.2.2.2.2.1) hS a (mk_ob hob) hcl j hj (C0.2.2.2.2.1 _ hw) (fun _ q => q) hfin (by rw [hty j hj, hti]) rfl rfl (by rw [List.length_map, List.length_range, hN]; exact hj) hd ?_
    intro H1 locs1 hP1 _ hS1
    have e : el true ca ad (up M a j (v : Int)) a = .inr (c0, ((List.range (NF c0)).map (fun i => fv true ad a c0 i (M a i))).set j (vv ad (.inr (.inl v)))) := by rw [el_obset hob, fv_m hF]; rfl
    rw [mk_set (Nat.ne_of_lt (ob_lt hob)) e] at hP1
    exact W.widen hg.1 hg.2 (hk _ _ _ h H1 locs1 lsA (rng_up hR (by rw [hob.1]; decide) (by unfold okI; omega)) (Nat.le_refl _) (fun q => nomatch q) hP1 hS1 (okt (okt ho)) hol hl)
  · exact h.elim
end Rules4
