--BLTRUE
section Rules5
variable {p : Program} {l : Launch} {e : Env} {R : Room} {s : State} {m : MethodId} {args : Array Value} {below : List Frame} {meth : Method} {c : Code} {cc : ByteArray} {nL : Nat} {own : String} {D : va_G} {ca : Nat → ClassId} {ad : Nat → Nat} {A : Nat → Prop} {Qf : State → Prop} {gc gs : Nat → Nat} {bl : Bool}
variable {J : JT} {Q : QT} {k : Kt} {pc nx : Nat}
theorem ak_lt {kd a : Nat} {i : Int} (h : AK kd a i) (hk : kd < 99) : a < 337 := SH_lt h.1 hk
theorem el_i {b : Bool} {M : Mem} {kd a : Nat} (h : (SH a).1 = kd) (h0 : kd ≠ 0) (h4 : kd < 4) : el b ca ad M a = .inl (ca kd, (SH a).2.1, .inl (fun j => Int32.ofInt (M a j))) := by
  unfold el
  rw [if_neg (by omega), if_neg (by omega), if_pos (by omega), h]
theorem el_l {b : Bool} {M : Mem} {a : Nat} (h : (SH a).1 = 4) : el b ca ad M a = .inl (ca 4, (SH a).2.1, .inr (.inl (fun j => Int64.ofInt (M a j)))) := by
  unfold el
  rw [if_neg (by omega), if_pos h]
theorem el_a {M : Mem} {kd a : Nat} (h : (SH a).1 = kd) (h4 : 4 < kd) : el true ca ad M a = .inl (ca kd, (SH a).2.1, .inr (.inr (.inr (.inr (fun j => some (ad ((SH a).2.2.1 + (SH a).2.2.2 * j))))))) := by
  unfold el
  rw [if_neg (by omega), if_neg (by omega), if_neg (by omega), h]
  simp
theorem mk_i {M : Mem} {kd a : Nat} (h : (SH a).1 = kd) (h0 : kd ≠ 0) (h4 : kd < 4) : (mk true ca ad M)[a]? = some (ad a, .inl (ca kd, (SH a).2.1, .inl (fun j => Int32.ofInt (M a j)))) := by
  rw [mk_at (by rw [cnt_t]; exact SH_lt h (by omega)), el_i h h0 h4]
theorem mk_l {M : Mem} {a : Nat} (h : (SH a).1 = 4) : (mk true ca ad M)[a]? = some (ad a, .inl (ca 4, (SH a).2.1, .inr (.inl (fun j => Int64.ofInt (M a j))))) := by
  rw [mk_at (by rw [cnt_t]; exact SH_lt h (by omega)), el_l h]
theorem mk_a {M : Mem} {kd a : Nat} (h : (SH a).1 = kd) (h4 : 4 < kd) (h9 : kd < 99) : (mk true ca ad M)[a]? = some (ad a, .inl (ca kd, (SH a).2.1, .inr (.inr (.inr (.inr (fun j => some (ad ((SH a).2.2.1 + (SH a).2.2.2 * j)))))))) := by
  rw [mk_at (by rw [cnt_t]; exact SH_lt h h9), el_a h h4]
theorem ak_in {kd a : Nat} {i : Int} (h : AK kd a i) (hi : okI i) : vp_in (Int32.ofInt i) (SH a).2.1 := in_of hi h.2.1 h.2.2
theorem s_ia (C0 : CX p s m args meth c cc nL own D ca ad A) (hd : decode cc pc = .ok (.iaload, 1)) (hg : gc pc ≤ gc (pc + 1) ∧ gs pc ≤ gs (pc + 1)) (hk : ∀ ls st M, k ls st M → JW p l e R s m args below meth c nL D ca ad A Qf gc gs true (pc + 1) ls st M) : ∀ ls st M, tx_ia J Q k ls st M → JW p l e R s m args below meth c nL D ca ad A Qf gc gs true pc ls st M := by
  intro ls st M h H locs lsA hR hc hz hP hS ho hol hl
  unfold tx_ia at h
  split at h
  · rename_i i a st
    obtain ⟨hak, h⟩ := h
    have hi : okI i := okh ho
    refine va_iald C0.1 C0.2.1 C0.2.2.2.2.2.2.1 hP a 0 (mk_i hak.1 (by decide) (by decide)) rfl (ak_in hak hi) hd ?_
    rw [cl_of hi]
    exact W.widen hg.1 hg.2 (hk _ _ _ h H locs lsA hR hc hz hP hS (okc (v := .inl _) (rng_I hR (by rw [hak.1]; decide) _) (okt (okt ho))) hol hl)
  · exact h.elim
theorem s_ba (C0 : CX p s m args meth c cc nL own D ca ad A) (hd : decode cc pc = .ok (.baload, 1)) (hg : gc pc ≤ gc (pc + 1) ∧ gs pc ≤ gs (pc + 1)) (hk : ∀ ls st M, k ls st M → JW p l e R s m args below meth c nL D ca ad A Qf gc gs true (pc + 1) ls st M) : ∀ ls st M, tx_ba J Q k ls st M → JW p l e R s m args below meth c nL D ca ad A Qf gc gs true pc ls st M := by
  intro ls st M h H locs lsA hR hc hz hP hS ho hol hl
  unfold tx_ba at h
  split at h
  · rename_i i a st
    obtain ⟨hak, h⟩ := h
    have hi : okI i := okh ho
    refine va_bald C0.1 C0.2.1 C0.2.2.2.2.2.2.1 hP a 1 (mk_i hak.1 (by decide) (by decide)) rfl (ak_in hak hi) hd ?_
    rw [cl_of hi]
    exact W.widen hg.1 hg.2 (hk _ _ _ h H locs lsA hR hc hz hP hS (okc (v := .inl _) (rng_I hR (by rw [hak.1]; decide) _) (okt (okt ho))) hol hl)
  · exact h.elim
theorem s_za (C0 : CX p s m args meth c cc nL own D ca ad A) (hd : decode cc pc = .ok (.baload, 1)) (hg : gc pc ≤ gc (pc + 1) ∧ gs pc ≤ gs (pc + 1)) (hk : ∀ ls st M, k ls st M → JW p l e R s m args below meth c nL D ca ad A Qf gc gs true (pc + 1) ls st M) : ∀ ls st M, tx_za J Q k ls st M → JW p l e R s m args below meth c nL D ca ad A Qf gc gs true pc ls st M := by
  intro ls st M h H locs lsA hR hc hz hP hS ho hol hl
  unfold tx_za at h
  split at h
  · rename_i i a st
    obtain ⟨hak, h⟩ := h
    have hi : okI i := okh ho
    refine va_zald C0.1 C0.2.1 C0.2.2.2.2.2.2.1 hP a 2 (mk_i hak.1 (by decide) (by decide)) rfl (ak_in hak hi) hd ?_
    rw [cl_of hi]
    exact W.widen hg.1 hg.2 (hk _ _ _ h H locs lsA hR hc hz hP hS (okc (v := .inl _) (rng_I hR (by rw [hak.1]; decide) _) (okt (okt ho))) hol hl)
  · exact h.elim
theorem s_la (C0 : CX p s m args meth c cc nL own D ca ad A) (hd : decode cc pc = .ok (.laload, 1)) (hg : gc pc ≤ gc (pc + 1) ∧ gs pc ≤ gs (pc + 1)) (hk : ∀ ls st M, k ls st M → JW p l e R s m args below meth c nL D ca ad A Qf gc gs true (pc + 1) ls st M) : ∀ ls st M, tx_la J Q k ls st M → JW p l e R s m args below meth c nL D ca ad A Qf gc gs true pc ls st M := by
  intro ls st M h H locs lsA hR hc hz hP hS ho hol hl
  unfold tx_la at h
  split at h
  · rename_i i a st
    obtain ⟨hak, h⟩ := h
    have hi : okI i := okh ho
    refine va_lald C0.1 C0.2.1 C0.2.2.2.2.2.2.1 hP a 3 (mk_l hak.1) rfl (ak_in hak hi) hd ?_
    rw [cl_of hi]
    exact W.widen hg.1 hg.2 (hk _ _ _ h H locs lsA hR hc hz hP hS (okc (v := .inr (.inr (.inl _))) (rng_L hR hak.1 _) (okt (okt ho))) hol hl)
  · exact h.elim
theorem s_aa (C0 : CX p s m args meth c cc nL own D ca ad A) {kd : Nat} {ty : FieldType} (h5 : 4 < kd) (h9 : kd < 99) (ht : (tys ca)[kd - 1]? = some (ca kd, ty)) (href : ty.isReference = true) (hd : decode cc pc = .ok (.aaload, 1)) (hg : gc pc ≤ gc (pc + 1) ∧ gs pc ≤ gs (pc + 1)) (hk : ∀ ls st M, k ls st M → JW p l e R s m args below meth c nL D ca ad A Qf gc gs true (pc + 1) ls st M) : ∀ ls st M, tx_aa kd J Q k ls st M → JW p l e R s m args below meth c nL D ca ad A Qf gc gs true pc ls st M := by
  intro ls st M h H locs lsA hR hc hz hP hS ho hol hl
  unfold tx_aa at h
  split at h
  · rename_i i a st
    obtain ⟨hak, h⟩ := h
    have hi : okI i := okh ho
    have hv := ak_in hak hi
    have hlt : (Int32.ofInt i).toNatClampNeg < (SH a).2.1 := Nat.not_le.mp fun q => hv (Or.inr q)
    refine W.aald (v := .ref (ad ((SH a).2.2.1 + (SH a).2.2.2 * i.toNat))) (ty := ty) C0.1 C0.2.1 (hP a _ (mk_a hak.1 h5 h9)) ((C0.2.2.2.2.2.2.1.2 (kd - 1) _ ht).1 (SH a).2.1 _) href (fun q => by cases q) (by show ¬ (Int32.ofInt i < 0 ∨ (arrV _ _ _).slots.size ≤ _); rw [arrV_size]; exact hv) (by show (arrV _ _ _).slots[_]? = _; rw [arrV_read _ _ hlt, cl_of hi]; rfl) rfl rfl hd ?_
    exact W.widen hg.1 hg.2 (hk _ _ _ h H locs lsA hR hc hz hP hS (okc (v := .inr (.inl _)) trivial (okt (okt ho))) hol hl)
  · exact h.elim
theorem upd_eq {M : Mem} {a j : Nat} {v : Int} {y : Int32} (hy : y = Int32.ofInt v) : upd (fun i => Int32.ofInt (M a i)) j y = fun i => Int32.ofInt (up M a j v a i) := by
  funext i
  unfold upd up
  by_cases h : i = j
  · rw [if_pos h, if_pos ⟨rfl, h⟩, hy]
  · rw [if_neg h, if_neg (fun q => h q.2)]
theorem s_iax (C0 : CX p s m args meth c cc nL own D ca ad A) (hd : decode cc pc = .ok (.iastore, 1)) (hg : gc pc ≤ gc (pc + 1) ∧ gs pc ≤ gs (pc + 1)) (hk : ∀ ls st M, k ls st M → JW p l e R s m args below meth c nL D ca ad A Qf gc gs true (pc + 1) ls st M) : ∀ ls st M, tx_iax J Q k ls st M → JW p l e R s m args below meth c nL D ca ad A Qf gc gs true pc ls st M := by
  intro ls st M h H locs lsA hR hc hz hP hS ho hol hl
  unfold tx_iax at h
  split at h
  · rename_i v i a st
    obtain ⟨hak, h⟩ := h
    have hi : okI i := okh (okt ho)
    refine va_iast C0.1 C0.2.1 C0.2.2.2.2.2.2.1 hP (mk_D hc C0.2.2.2.2.2.2.2.1 C0.2.2.2.2.2.2.2.2.1) hS a 0 (mk_i hak.1 (by decide) (by decide)) rfl (ak_in hak hi) hd ?_
    intro H1 locs1 hP1 _ hS1
    rw [cl_of hi, upd_eq rfl, mk_set (Nat.ne_of_lt (ak_lt hak (by decide))) (el_i hak.1 (by decide) (by decide))] at hP1
    exact W.widen hg.1 hg.2 (hk _ _ _ h H1 locs1 lsA (rng_up hR (by rw [hak.1]; decide) (okh ho)) (Nat.le_refl _) (fun q => nomatch q) hP1 hS1 (okt (okt (okt ho))) hol hl)
  · exact h.elim
theorem s_bax (C0 : CX p s m args meth c cc nL own D ca ad A) (hd : decode cc pc = .ok (.bastore, 1)) (hg : gc pc ≤ gc (pc + 1) ∧ gs pc ≤ gs (pc + 1)) (hk : ∀ ls st M, k ls st M → JW p l e R s m args below meth c nL D ca ad A Qf gc gs true (pc + 1) ls st M) : ∀ ls st M, tx_bax J Q k ls st M → JW p l e R s m args below meth c nL D ca ad A Qf gc gs true pc ls st M := by
  intro ls st M h H locs lsA hR hc hz hP hS ho hol hl
  unfold tx_bax at h
  split at h
  · rename_i v i a st
    obtain ⟨hak, h⟩ := h
    have hi : okI i := okh (okt ho)
    refine va_bast C0.1 C0.2.1 C0.2.2.2.2.2.2.1 hP (mk_D hc C0.2.2.2.2.2.2.2.1 C0.2.2.2.2.2.2.2.2.1) hS a 1 (mk_i hak.1 (by decide) (by decide)) rfl (ak_in hak hi) hd ?_
    intro H1 locs1 hP1 _ hS1
    rw [cl_of hi, upd_eq ((vp_nar_byte _).trans (of_byte v)), mk_set (Nat.ne_of_lt (ak_lt hak (by decide))) (el_i hak.1 (by decide) (by decide))] at hP1
    exact W.widen hg.1 hg.2 (hk _ _ _ h H1 locs1 lsA (rng_up hR (by rw [hak.1]; decide) (w8_ok v)) (Nat.le_refl _) (fun q => nomatch q) hP1 hS1 (okt (okt (okt ho))) hol hl)
  · exact h.elim
theorem s_zax (C0 : CX p s m args meth c cc nL own D ca ad A) (hd : decode cc pc = .ok (.bastore, 1)) (hg : gc pc ≤ gc (pc + 1) ∧ gs pc ≤ gs (pc + 1)) (hk : ∀ ls st M, k ls st M → JW p l e R s m args below meth c nL D ca ad A Qf gc gs true (pc + 1) ls st M) : ∀ ls st M, tx_zax J Q k ls st M → JW p l e R s m args below meth c nL D ca ad A Qf gc gs true pc ls st M := by
  intro ls st M h H locs lsA hR hc hz hP hS ho hol hl
  unfold tx_zax at h
  split at h
  · rename_i v i a st
    obtain ⟨hak, hv, h⟩ := h
    have hi : okI i := okh (okt ho)
    refine va_zast C0.1 C0.2.1 C0.2.2.2.2.2.2.1 hP (mk_D hc C0.2.2.2.2.2.2.2.1 C0.2.2.2.2.2.2.2.2.1) hS a 2 (mk_i hak.1 (by decide) (by decide)) rfl (ak_in hak hi) hd ?_
    intro H1 locs1 hP1 _ hS1
    rw [cl_of hi, upd_eq (zf hv).2.2, mk_set (Nat.ne_of_lt (ak_lt hak (by decide))) (el_i hak.1 (by decide) (by decide))] at hP1
    exact W.widen hg.1 hg.2 (hk _ _ _ h H1 locs1 lsA (rng_up hR (by rw [hak.1]; decide) (okh ho)) (Nat.le_refl _) (fun q => nomatch q) hP1 hS1 (okt (okt (okt ho))) hol hl)
  · exact h.elim
theorem updL_eq {M : Mem} {a j : Nat} {v : Int} : vp_updL (fun i => Int64.ofInt (M a i)) j (Int64.ofInt v) = fun i => Int64.ofInt (up M a j v a i) := by
  funext i
  unfold vp_updL up
  by_cases h : i = j
  · rw [if_pos h, if_pos ⟨rfl, h⟩]
  · rw [if_neg h, if_neg (fun q => h q.2)]
theorem s_lax (C0 : CX p s m args meth c cc nL own D ca ad A) (hd : decode cc pc = .ok (.lastore, 1)) (hg : gc pc ≤ gc (pc + 1) ∧ gs pc ≤ gs (pc + 1)) (hk : ∀ ls st M, k ls st M → JW p l e R s m args below meth c nL D ca ad A Qf gc gs true (pc + 1) ls st M) : ∀ ls st M, tx_lax J Q k ls st M → JW p l e R s m args below meth c nL D ca ad A Qf gc gs true pc ls st M := by
  intro ls st M h H locs lsA hR hc hz hP hS ho hol hl
  unfold tx_lax at h
  split at h
  · rename_i v i a st
    obtain ⟨hak, h⟩ := h
    have hi : okI i := okh (okt ho)
    refine va_last (x := Int64.ofInt v) C0.1 C0.2.1 C0.2.2.2.2.2.2.1 hP (mk_D hc C0.2.2.2.2.2.2.2.1 C0.2.2.2.2.2.2.2.2.1) hS a 3 (mk_l hak.1) rfl (ak_in hak hi) hd ?_
    intro H1 locs1 hP1 _ hS1
    rw [cl_of hi, updL_eq, mk_set (Nat.ne_of_lt (ak_lt hak (by decide))) (el_l hak.1)] at hP1
    exact W.widen hg.1 hg.2 (hk _ _ _ h H1 locs1 lsA (rng_upL hR hak.1 (okh ho)) (Nat.le_refl _) (fun q => nomatch q) hP1 hS1 (okt (okt (okt ho))) hol hl)
  · exact h.elim
theorem ofNat_ofInt (n : Nat) : Int32.ofNat n = Int32.ofInt (n : Int) := rfl
theorem s_len (C0 : CX p s m args meth c cc nL own D ca ad A) (hd : decode cc pc = .ok (.arraylength, 1)) (hg : gc pc ≤ gc (pc + 1) ∧ gs pc ≤ gs (pc + 1)) (hk : ∀ ls st M, k ls st M → JW p l e R s m args below meth c nL D ca ad A Qf gc gs true (pc + 1) ls st M) : ∀ ls st M, tx_len J Q k ls st M → JW p l e R s m args below meth c nL D ca ad A Qf gc gs true pc ls st M := by
  intro ls st M h H locs lsA hR hc hz hP hS ho hol hl
  unfold tx_len at h
  split at h
  · rename_i a st
    obtain ⟨⟨h1, h8⟩, h⟩ := h
    have hn : okI ((SH a).2.1 : Int) := by
      have := SH_n a
      unfold okI
      omega
    have fin := W.widen hg.1 hg.2 (hk _ _ _ h H locs lsA hR hc hz hP hS (okc (v := .inl ((SH a).2.1 : Int)) hn (okt ho)) hol hl)
    obtain ⟨kd, hkd⟩ : ∃ kd, (SH a).1 = kd := ⟨_, rfl⟩
    rw [hkd] at h1 h8
    by_cases h4 : kd < 4
    · have hm := mk_i (ca := ca) (ad := ad) (M := M) hkd (by omega) h4
      rcases (show kd = 1 ∨ kd = 2 ∨ kd = 3 by omega) with rfl | rfl | rfl
      · exact va_alen C0.1 C0.2.1 C0.2.2.2.2.2.2.1 hP a 0 hm (ty := .int) rfl (ofNat_ofInt _) hd fin
      · exact va_alen C0.1 C0.2.1 C0.2.2.2.2.2.2.1 hP a 1 hm (ty := .byte) rfl (ofNat_ofInt _) hd fin
      · exact va_alen C0.1 C0.2.1 C0.2.2.2.2.2.2.1 hP a 2 hm (ty := .boolean) rfl (ofNat_ofInt _) hd fin
    · by_cases h5 : kd = 4
      · subst h5
        exact va_alen C0.1 C0.2.1 C0.2.2.2.2.2.2.1 hP a 3 (mk_l hkd) (ty := .long) rfl (ofNat_ofInt _) hd fin
      · have hm := mk_a (ca := ca) (ad := ad) (M := M) hkd (by omega) (by omega)
        rcases (show kd = 5 ∨ kd = 6 ∨ kd = 7 ∨ kd = 8 by omega) with rfl | rfl | rfl | rfl
        · exact va_alen C0.1 C0.2.1 C0.2.2.2.2.2.2.1 hP a 4 hm (ty := .array .int) rfl (ofNat_ofInt _) hd fin
        · exact va_alen C0.1 C0.2.1 C0.2.2.2.2.2.2.1 hP a 5 hm (ty := .array (.array .int)) rfl (ofNat_ofInt _) hd fin
        · exact va_alen C0.1 C0.2.1 C0.2.2.2.2.2.2.1 hP a 6 hm (ty := .object RX5) rfl (ofNat_ofInt _) hd fin
        · exact va_alen C0.1 C0.2.1 C0.2.2.2.2.2.2.1 hP a 7 hm (ty := .object RX0) rfl (ofNat_ofInt _) hd fin
  · exact h.elim
theorem s_scr (C0 : CX p s m args meth c cc nL own D ca ad A) {b L : Nat} {xs : Nat → Int32} (hX : va_X b L xs s s.heap) (hbl : b < s.heap.size) (hbA : ¬ A b) (hd : decode cc pc = .ok (.iaload, 1)) (hg : gc pc ≤ gc (pc + 1) ∧ gs pc ≤ gs (pc + 1)) (hk : ∀ ls st M, k ls st M → JW p l e R s m args below meth c nL D ca ad A Qf gc gs true (pc + 1) ls st M) : ∀ ls st M, tx_scr b L xs J Q k ls st M → JW p l e R s m args below meth c nL D ca ad A Qf gc gs true pc ls st M := by
  intro ls st M h H locs lsA hR hc hz hP hS ho hol hl
  unfold tx_scr at h
  split at h
  · rename_i i a st
    obtain ⟨⟨rfl, h0, h1⟩, h⟩ := h
    have hi : okI i := okh ho
    refine va_sld C0.1 C0.2.1 hX hbl hbA hS (in_of hi h0 h1) hd ?_
    rw [cl_of hi]
    have ee : Value.int (xs i.toNat) = vv ad (.inl (xs i.toNat).toInt) := by show _ = Value.int (Int32.ofInt _); rw [as_of]
    show W p l e R s m args below meth c H locs (gc pc) (gs pc) Qf (F0 m (pc + 1) lsA (.int (xs i.toNat) :: st.map (vv ad)))
    rw [ee]
    exact W.widen hg.1 hg.2 (hk _ _ _ h H locs lsA hR hc hz hP hS (okc (v := .inl _) (ok_of _) (okt (okt ho))) hol hl)
  · exact h.elim
theorem s_scl (C0 : CX p s m args meth c cc nL own D ca ad A) {b L : Nat} {xs : Nat → Int32} (hX : va_X b L xs s s.heap) (hbl : b < s.heap.size) (hbA : ¬ A b) (hL : L < 2147483648) (hd : decode cc pc = .ok (.arraylength, 1)) (hg : gc pc ≤ gc (pc + 1) ∧ gs pc ≤ gs (pc + 1)) (hk : ∀ ls st M, k ls st M → JW p l e R s m args below meth c nL D ca ad A Qf gc gs true (pc + 1) ls st M) : ∀ ls st M, tx_scl b L J Q k ls st M → JW p l e R s m args below meth c nL D ca ad A Qf gc gs true pc ls st M := by
  intro ls st M h H locs lsA hR hc hz hP hS ho hol hl
  unfold tx_scl at h
  split at h
  · rename_i a st
    obtain ⟨rfl, h⟩ := h
    exact va_slen C0.1 C0.2.1 hX hbl hbA hS hd (W.widen hg.1 hg.2 (hk _ _ _ h H locs lsA hR hc hz hP hS (okc (v := .inl (L : Int)) (by unfold okv okI; omega) (okt ho)) hol hl))
  · exact h.elim
end Rules5
