theorem d_J3_checkIndex_8e157_0 : decode cJ3_checkIndex_8e157 0 = .ok (.iload_n 0, 1) := by decide +kernel
theorem d_J3_checkIndex_8e157_1 : decode cJ3_checkIndex_8e157 1 = .ok (.ifCond .lt 8, 3) := by decide +kernel
theorem d_J3_checkIndex_8e157_4 : decode cJ3_checkIndex_8e157 4 = .ok (.iload_n 0, 1) := by decide +kernel
theorem d_J3_checkIndex_8e157_5 : decode cJ3_checkIndex_8e157 5 = .ok (.iload_n 1, 1) := by decide +kernel
theorem d_J3_checkIndex_8e157_6 : decode cJ3_checkIndex_8e157 6 = .ok (.if_icmp .lt 10, 3) := by decide +kernel
theorem d_J3_checkIndex_8e157_16 : decode cJ3_checkIndex_8e157 16 = .ok (.iload_n 0, 1) := by decide +kernel
theorem d_J3_checkIndex_8e157_17 : decode cJ3_checkIndex_8e157 17 = .ok (.ireturn, 1) := by decide +kernel
theorem c_J3_checkIndex_8e157 (l : Launch) : Ctr3 l yJ3_checkIndex_8e157 cJ3_checkIndex_8e157 10 200 := ctr3_of (by decide) d_J3_checkIndex_8e157_0 d_J3_checkIndex_8e157_1 d_J3_checkIndex_8e157_4 d_J3_checkIndex_8e157_5 d_J3_checkIndex_8e157_6 d_J3_checkIndex_8e157_16 d_J3_checkIndex_8e157_17
theorem wg1673 : Cond.fieldLink "java/lang/String" 15 "java/lang/String" "coder" "B" ∈ GT := gt_mem 1793 (by decide +kernel) rfl
theorem wg674 : Cond.fieldLink "java/lang/String" 38 "java/lang/String" "COMPACT_STRINGS" "Z" ∈ GT := gt_mem 794 (by decide +kernel) rfl
theorem d_J0_coder_7d493_0 : decode cJ0_coder_7d493 0 = .ok (.getstatic 38, 3) := by decide +kernel
theorem d_J0_coder_7d493_3 : decode cJ0_coder_7d493 3 = .ok (.ifCond .eq 10, 3) := by decide +kernel
theorem d_J0_coder_7d493_6 : decode cJ0_coder_7d493 6 = .ok (.aload_n 0, 1) := by decide +kernel
theorem d_J0_coder_7d493_7 : decode cJ0_coder_7d493 7 = .ok (.getfield 15, 3) := by decide +kernel
theorem d_J0_coder_7d493_10 : decode cJ0_coder_7d493 10 = .ok (.goto 4, 3) := by decide +kernel
theorem d_J0_coder_7d493_13 : decode cJ0_coder_7d493 13 = .ok (.iconst 1, 1) := by decide +kernel
theorem d_J0_coder_7d493_14 : decode cJ0_coder_7d493 14 = .ok (.ireturn, 1) := by decide +kernel
def b_J0_coder_7d493_0 (sx sy : Nat → Nat) : List AT := [tx_ic 1, tx_ifz r_eq 13, tx_al 0, tx_sco sx, tx_fall 14]
def b_J0_coder_7d493_13 (sx sy : Nat → Nat) : List AT := [tx_ic 1, tx_fall 14]
def b_J0_coder_7d493_14 (sx sy : Nat → Nat) : List AT := [tx_rx]
def R_J0_coder_7d493 (sx sy : Nat → Nat) (J : JT) (Q : QT) : Prop := (∀ ls st M, wpl J Q (b_J0_coder_7d493_0 sx sy) ls st M → J 0 ls st M) ∧ (∀ ls st M, wpl J Q (b_J0_coder_7d493_13 sx sy) ls st M → J 13 ls st M) ∧ (∀ ls st M, wpl J Q (b_J0_coder_7d493_14 sx sy) ls st M → J 14 ls st M)
theorem P_J0_coder_7d493 {sx sy : Nat → Nat} {J : JT} {Q : QT} (R : R_J0_coder_7d493 sx sy J Q) {as : List Vl} {M : Mem} (h : F_Jcoder sx sy as M Q) : (enL as).length ≤ 1 ∧ J 0 (padL 1 (enL as)) [] M := by
  unfold F_Jcoder at h
  split at h
  · obtain ⟨hi, hQ⟩ := h
    exact ⟨Nat.le_of_ble_eq_true rfl, R.1 _ _ _ ⟨fun g => absurd (show (1 : Int) = 0 from g) (by decide), fun _ => ⟨hi, R.2.2 _ _ _ ⟨by decide, hQ⟩⟩⟩⟩
  · exact h.elim
set_option maxRecDepth 100000 in
theorem L_J0_coder_7d493 {p : Program} {l : Launch} {e : Env} {s : State} {m : MethodId} {args : Array Value} {below : List Frame} {meth : Method} {c : Code} {D : va_G} {ca : Nat → ClassId} {ad sx sy : Nat → Nat} {A : Nat → Prop} {Q : QT} (C0 : CX p s m args meth c cJ0_coder_7d493 1 yJ0_coder_7d493.cls D ca ad A) (hE : EX sx sy A s s.heap) (hr : meth.sig.returnType = (some .byte)) (hno : ∀ x ∈ c.exceptionTable.toList, False) : R_J0_coder_7d493 sx sy (JW p l e { frames := 10, cells := 0, slots := 6 * 0, locals := 200 } s m args below meth c 1 D ca ad A (vx_MQ below (Qn D ca ad A Q) (Qx D ca ad A Q) args s 0 (6 * 0) A) gz gz true) Q := ⟨s_cs C0 hE wg674 (d_J0_coder_7d493_0) hgz (s_zeq C0 (d_J0_coder_7d493_3) (by decide) hgz hgz (fun _ _ _ h => h) (s_aln C0 (d_J0_coder_7d493_6) hgz (s_sco C0 hE wg1673 (d_J0_coder_7d493_7) hgz (s_goto C0 (tgt := 14) (d_J0_coder_7d493_10) (by decide) hgz (fun _ _ _ h => h))))),
  s_ic C0 (d_J0_coder_7d493_13) hgz (fun _ _ _ h => h) (okn rfl),
  s_rx C0 (Or.inr rfl) hr (d_J0_coder_7d493_14) ⟨by decide, by decide⟩⟩
theorem c_J0_coder_7d493 (l : Launch) : Ctr2 l yJ0_coder_7d493 cJ0_coder_7d493 1 (some .byte) 10 200 F_Jcoder := ctr2_of (by decide) (fun p e s m args below meth c D ca ad sx sy A Q as M C0 hE hr hno hF => P_J0_coder_7d493 (L_J0_coder_7d493 C0 hE hr hno) hF)
theorem d_J0_isLatin1_aae02_0 : decode cJ0_isLatin1_aae02 0 = .ok (.getstatic 38, 3) := by decide +kernel
theorem d_J0_isLatin1_aae02_3 : decode cJ0_isLatin1_aae02 3 = .ok (.ifCond .eq 14, 3) := by decide +kernel
theorem d_J0_isLatin1_aae02_6 : decode cJ0_isLatin1_aae02 6 = .ok (.aload_n 0, 1) := by decide +kernel
theorem d_J0_isLatin1_aae02_7 : decode cJ0_isLatin1_aae02 7 = .ok (.getfield 15, 3) := by decide +kernel
theorem d_J0_isLatin1_aae02_10 : decode cJ0_isLatin1_aae02 10 = .ok (.ifCond .ne 7, 3) := by decide +kernel
theorem d_J0_isLatin1_aae02_13 : decode cJ0_isLatin1_aae02 13 = .ok (.iconst 1, 1) := by decide +kernel
theorem d_J0_isLatin1_aae02_14 : decode cJ0_isLatin1_aae02 14 = .ok (.goto 4, 3) := by decide +kernel
theorem d_J0_isLatin1_aae02_17 : decode cJ0_isLatin1_aae02 17 = .ok (.iconst 0, 1) := by decide +kernel
theorem d_J0_isLatin1_aae02_18 : decode cJ0_isLatin1_aae02 18 = .ok (.ireturn, 1) := by decide +kernel
def b_J0_isLatin1_aae02_0 (sx sy : Nat → Nat) : List AT := [tx_ic 1, tx_ifz r_eq 17, tx_al 0, tx_sco sx, tx_ifz r_ne 17, tx_ic 1, tx_fall 18]
def b_J0_isLatin1_aae02_17 (sx sy : Nat → Nat) : List AT := [tx_ic 0, tx_fall 18]
def b_J0_isLatin1_aae02_18 (sx sy : Nat → Nat) : List AT := [tx_rz]
def R_J0_isLatin1_aae02 (sx sy : Nat → Nat) (J : JT) (Q : QT) : Prop := (∀ ls st M, wpl J Q (b_J0_isLatin1_aae02_0 sx sy) ls st M → J 0 ls st M) ∧ (∀ ls st M, wpl J Q (b_J0_isLatin1_aae02_17 sx sy) ls st M → J 17 ls st M) ∧ (∀ ls st M, wpl J Q (b_J0_isLatin1_aae02_18 sx sy) ls st M → J 18 ls st M)
theorem P_J0_isLatin1_aae02 {sx sy : Nat → Nat} {J : JT} {Q : QT} (R : R_J0_isLatin1_aae02 sx sy J Q) {as : List Vl} {M : Mem} (h : F_Jlat sx sy as M Q) : (enL as).length ≤ 1 ∧ J 0 (padL 1 (enL as)) [] M := by
  unfold F_Jlat at h
  split at h
  · obtain ⟨hi, hQ⟩ := h
    exact ⟨Nat.le_of_ble_eq_true rfl, R.1 _ _ _ ⟨fun g => absurd (show (1 : Int) = 0 from g) (by decide), fun _ => ⟨hi, fun g => absurd rfl g, fun _ => R.2.2 _ _ _ ⟨Or.inr rfl, hQ⟩⟩⟩⟩
  · exact h.elim
set_option maxRecDepth 100000 in
theorem L_J0_isLatin1_aae02 {p : Program} {l : Launch} {e : Env} {s : State} {m : MethodId} {args : Array Value} {below : List Frame} {meth : Method} {c : Code} {D : va_G} {ca : Nat → ClassId} {ad sx sy : Nat → Nat} {A : Nat → Prop} {Q : QT} (C0 : CX p s m args meth c cJ0_isLatin1_aae02 1 yJ0_isLatin1_aae02.cls D ca ad A) (hE : EX sx sy A s s.heap) (hr : meth.sig.returnType = (some .boolean)) (hno : ∀ x ∈ c.exceptionTable.toList, False) : R_J0_isLatin1_aae02 sx sy (JW p l e { frames := 10, cells := 0, slots := 6 * 0, locals := 200 } s m args below meth c 1 D ca ad A (vx_MQ below (Qn D ca ad A Q) (Qx D ca ad A Q) args s 0 (6 * 0) A) gz gz true) Q := ⟨s_cs C0 hE wg674 (d_J0_isLatin1_aae02_0) hgz (s_zeq C0 (d_J0_isLatin1_aae02_3) (by decide) hgz hgz (fun _ _ _ h => h) (s_aln C0 (d_J0_isLatin1_aae02_6) hgz (s_sco C0 hE wg1673 (d_J0_isLatin1_aae02_7) hgz (s_zne C0 (d_J0_isLatin1_aae02_10) (by decide) hgz hgz (fun _ _ _ h => h) (s_ic C0 (d_J0_isLatin1_aae02_13) hgz (s_goto C0 (tgt := 18) (d_J0_isLatin1_aae02_14) (by decide) hgz (fun _ _ _ h => h)) (okn rfl)))))),
  s_ic C0 (d_J0_isLatin1_aae02_17) hgz (fun _ _ _ h => h) (okn rfl),
  s_rz C0 hr (d_J0_isLatin1_aae02_18) ⟨by decide, by decide⟩⟩
theorem c_J0_isLatin1_aae02 (l : Launch) : Ctr2 l yJ0_isLatin1_aae02 cJ0_isLatin1_aae02 1 (some .boolean) 10 200 F_Jlat := ctr2_of (by decide) (fun p e s m args below meth c D ca ad sx sy A Q as M C0 hE hr hno hF => P_J0_isLatin1_aae02 (L_J0_isLatin1_aae02 C0 hE hr hno) hF)
theorem wg673 : Cond.code ⟨"java/lang/String", "coder", "()B"⟩ prog_22_method_152_code 1 (Option.some .byte) ∈ GT := gt_mem 793 (by decide +kernel) rfl
theorem wg670 : Cond.methodLink "java/lang/String" 335 ⟨"java/lang/String", "coder", "()B"⟩ ∈ GT := gt_mem 790 (by decide +kernel) rfl
theorem wg671 : Cond.instanceMethod ⟨"java/lang/String", "coder", "()B"⟩ ∈ GT := gt_mem 791 (by decide +kernel) rfl
theorem wg672 : Cond.selects "java/lang/String" ⟨"java/lang/String", "coder", "()B"⟩ ⟨"java/lang/String", "coder", "()B"⟩ ∈ GT := gt_mem 792 (by decide +kernel) rfl
theorem wg18 : Cond.initialized "java/lang/String" ∈ GT := gt_mem 138 (by decide +kernel) rfl
theorem wg1672 : Cond.fieldLink "java/lang/String" 9 "java/lang/String" "value" "[B" ∈ GT := gt_mem 1792 (by decide +kernel) rfl
theorem d_J0_length_8abf5_0 : decode cJ0_length_8abf5 0 = .ok (.aload_n 0, 1) := by decide +kernel
theorem d_J0_length_8abf5_1 : decode cJ0_length_8abf5 1 = .ok (.getfield 9, 3) := by decide +kernel
theorem d_J0_length_8abf5_4 : decode cJ0_length_8abf5 4 = .ok (.arraylength, 1) := by decide +kernel
theorem d_J0_length_8abf5_5 : decode cJ0_length_8abf5 5 = .ok (.aload_n 0, 1) := by decide +kernel
theorem d_J0_length_8abf5_6 : decode cJ0_length_8abf5 6 = .ok (.invokevirtual 335, 3) := by decide +kernel
theorem d_J0_length_8abf5_9 : decode cJ0_length_8abf5 9 = .ok (.ishr, 1) := by decide +kernel
theorem d_J0_length_8abf5_10 : decode cJ0_length_8abf5 10 = .ok (.ireturn, 1) := by decide +kernel
def b_J0_length_8abf5_0 (sx sy : Nat → Nat) : List AT := [tx_al 0, tx_sva sx sy, tx_sal sy, tx_al 0, tx_callo sx (F_Jcoder sx sy) 0, tx_bin shrI, tx_ri]
def R_J0_length_8abf5 (sx sy : Nat → Nat) (J : JT) (Q : QT) : Prop := (∀ ls st M, wpl J Q (b_J0_length_8abf5_0 sx sy) ls st M → J 0 ls st M)
theorem P_J0_length_8abf5 {sx sy : Nat → Nat} {J : JT} {Q : QT} (R : R_J0_length_8abf5 sx sy J Q) {as : List Vl} {M : Mem} (h : F_Jlen sx sy as M Q) : (enL as).length ≤ 1 ∧ J 0 (padL 1 (enL as)) [] M := by
  unfold F_Jlen at h
  split at h
  · obtain ⟨i, hi, ha, hQ⟩ := h
    refine ⟨Nat.le_of_ble_eq_true rfl, R _ _ _ ⟨i, hi, ha, i, hi, rfl, ⟨i, hi, ha⟩, ⟨i, hi, ha⟩, ?_⟩⟩
    show Q (.inl (some (vI (shrI ((strC i).length : Int) 0)))) M
    rw [shr0 (len_ok hi)]
    exact hQ
  · exact h.elim
set_option maxRecDepth 100000 in
theorem L_J0_length_8abf5 {p : Program} {l : Launch} {e : Env} {s : State} {m : MethodId} {args : Array Value} {below : List Frame} {meth : Method} {c : Code} {D : va_G} {ca : Nat → ClassId} {ad sx sy : Nat → Nat} {A : Nat → Prop} {Q : QT} (C0 : CX p s m args meth c cJ0_length_8abf5 1 yJ0_length_8abf5.cls D ca ad A) (hE : EX sx sy A s s.heap) (hr : meth.sig.returnType = (some .int)) (hno : ∀ x ∈ c.exceptionTable.toList, False) : R_J0_length_8abf5 sx sy (JW p l e { frames := 11, cells := 0, slots := 6 * 0, locals := 220 } s m args below meth c 1 D ca ad A (vx_MQ below (Qn D ca ad A Q) (Qx D ca ad A Q) args s 0 (6 * 0) A) gz gz true) Q := s_aln C0 (d_J0_length_8abf5_0) hgz (s_sva C0 hE wg1672 (d_J0_length_8abf5_1) hgz (s_sal C0 hE (d_J0_length_8abf5_4) hgz (s_aln C0 (d_J0_length_8abf5_5) hgz (s_callo C0 hE (c_J0_coder_7d493 l) wg673 wg670 wg671 wg672 wg18 ⟨by decide, by decide⟩ (by decide +kernel) ⟨by decide, by decide⟩ ⟨by decide, by decide⟩ (d_J0_length_8abf5_6) (fun x hx => (hno x hx).elim) ⟨by decide, by decide⟩ ⟨by decide, by decide⟩ (s_shr C0 (d_J0_length_8abf5_9) hgz (s_ri C0 hr (d_J0_length_8abf5_10) ⟨by decide, by decide⟩))))))
theorem c_J0_length_8abf5 (l : Launch) : Ctr2 l yJ0_length_8abf5 cJ0_length_8abf5 1 (some .int) 11 220 F_Jlen := ctr2_of (by decide) (fun p e s m args below meth c D ca ad sx sy A Q as M C0 hE hr hno hF => P_J0_length_8abf5 (L_J0_length_8abf5 C0 hE hr hno) hF)
theorem wg690 : Cond.fieldLink "java/lang/String" 1053 "jdk/internal/util/Preconditions" "SIOOBE_FORMATTER" "Ljava/util/function/BiFunction;" ∈ GT := gt_mem 810 (by decide +kernel) rfl
theorem wg694 : Cond.code ⟨"jdk/internal/util/Preconditions", "checkIndex", "(IILjava/util/function/BiFunction;)I"⟩ prog_30_method_11_code 3 (Option.some .int) ∈ GT := gt_mem 814 (by decide +kernel) rfl
theorem wg692 : Cond.methodLink "java/lang/String" 1059 ⟨"jdk/internal/util/Preconditions", "checkIndex", "(IILjava/util/function/BiFunction;)I"⟩ ∈ GT := gt_mem 812 (by decide +kernel) rfl
theorem wg693 : Cond.static ⟨"jdk/internal/util/Preconditions", "checkIndex", "(IILjava/util/function/BiFunction;)I"⟩ ∈ GT := gt_mem 813 (by decide +kernel) rfl
theorem wg20 : Cond.initialized "jdk/internal/util/Preconditions" ∈ GT := gt_mem 140 (by decide +kernel) rfl
theorem d_J0_checkIndex_df160_0 : decode cJ0_checkIndex_df160 0 = .ok (.iload_n 0, 1) := by decide +kernel
theorem d_J0_checkIndex_df160_1 : decode cJ0_checkIndex_df160 1 = .ok (.iload_n 1, 1) := by decide +kernel
theorem d_J0_checkIndex_df160_2 : decode cJ0_checkIndex_df160 2 = .ok (.getstatic 1053, 3) := by decide +kernel
theorem d_J0_checkIndex_df160_5 : decode cJ0_checkIndex_df160 5 = .ok (.invokestatic 1059, 3) := by decide +kernel
theorem d_J0_checkIndex_df160_8 : decode cJ0_checkIndex_df160 8 = .ok (.pop, 1) := by decide +kernel
theorem d_J0_checkIndex_df160_9 : decode cJ0_checkIndex_df160 9 = .ok (.return_, 1) := by decide +kernel
def b_J0_checkIndex_df160_0 (sx sy : Nat → Nat) : List AT := [tx_il 0, tx_il 1, tx_ck, tx_pop, tx_rv]
def R_J0_checkIndex_df160 (sx sy : Nat → Nat) (J : JT) (Q : QT) : Prop := (∀ ls st M, wpl J Q (b_J0_checkIndex_df160_0 sx sy) ls st M → J 0 ls st M)
theorem P_J0_checkIndex_df160 {sx sy : Nat → Nat} {J : JT} {Q : QT} (R : R_J0_checkIndex_df160 sx sy J Q) {as : List Vl} {M : Mem} (h : F_Jck sx sy as M Q) : (enL as).length ≤ 2 ∧ J 0 (padL 2 (enL as)) [] M := by
  unfold F_Jck at h
  split at h
  · obtain ⟨hj, hQ⟩ := h
    exact ⟨Nat.le_of_ble_eq_true rfl, R _ _ _ ⟨hj, hQ⟩⟩
  · exact h.elim
set_option maxRecDepth 100000 in
theorem L_J0_checkIndex_df160 {p : Program} {l : Launch} {e : Env} {s : State} {m : MethodId} {args : Array Value} {below : List Frame} {meth : Method} {c : Code} {D : va_G} {ca : Nat → ClassId} {ad sx sy : Nat → Nat} {A : Nat → Prop} {Q : QT} (C0 : CX p s m args meth c cJ0_checkIndex_df160 2 yJ0_checkIndex_df160.cls D ca ad A) (hE : EX sx sy A s s.heap) (hr : meth.sig.returnType = none) (hno : ∀ x ∈ c.exceptionTable.toList, False) : R_J0_checkIndex_df160 sx sy (JW p l e { frames := 11, cells := 0, slots := 6 * 0, locals := 222 } s m args below meth c 2 D ca ad A (vx_MQ below (Qn D ca ad A Q) (Qx D ca ad A Q) args s 0 (6 * 0) A) gz gz true) Q := s_iln C0 (d_J0_checkIndex_df160_0) hgz (s_iln C0 (d_J0_checkIndex_df160_1) hgz (s_ck C0 hE (c_J3_checkIndex_8e157 l) wg690 wg694 wg692 wg693 wg20 ⟨by decide, by decide⟩ (by decide +kernel) ⟨by decide, by decide⟩ ⟨by decide, by decide⟩ (d_J0_checkIndex_df160_2) (d_J0_checkIndex_df160_5) (fun x hx => (hno x hx).elim) hgz ⟨by decide, by decide⟩ ⟨by decide, by decide⟩ (s_pop C0 (d_J0_checkIndex_df160_8) hgz (s_rv C0 hr (d_J0_checkIndex_df160_9) ⟨by decide, by decide⟩))))
theorem c_J0_checkIndex_df160 (l : Launch) : Ctr2 l yJ0_checkIndex_df160 cJ0_checkIndex_df160 2 none 11 222 F_Jck := ctr2_of (by decide) (fun p e s m args below meth c D ca ad sx sy A Q as M C0 hE hr hno hF => P_J0_checkIndex_df160 (L_J0_checkIndex_df160 C0 hE hr hno) hF)
theorem wg689 : Cond.code ⟨"java/lang/String", "checkIndex", "(II)V"⟩ prog_22_method_155_code 2 (Option.none : Option FieldType) ∈ GT := gt_mem 809 (by decide +kernel) rfl
theorem wg687 : Cond.methodLink "java/lang/StringLatin1" 9 ⟨"java/lang/String", "checkIndex", "(II)V"⟩ ∈ GT := gt_mem 807 (by decide +kernel) rfl
theorem wg688 : Cond.static ⟨"java/lang/String", "checkIndex", "(II)V"⟩ ∈ GT := gt_mem 808 (by decide +kernel) rfl
theorem d_J1_charAt_3b067_0 : decode cJ1_charAt_3b067 0 = .ok (.iload_n 1, 1) := by decide +kernel
theorem d_J1_charAt_3b067_1 : decode cJ1_charAt_3b067 1 = .ok (.aload_n 0, 1) := by decide +kernel
theorem d_J1_charAt_3b067_2 : decode cJ1_charAt_3b067 2 = .ok (.arraylength, 1) := by decide +kernel
theorem d_J1_charAt_3b067_3 : decode cJ1_charAt_3b067 3 = .ok (.invokestatic 9, 3) := by decide +kernel
theorem d_J1_charAt_3b067_6 : decode cJ1_charAt_3b067 6 = .ok (.aload_n 0, 1) := by decide +kernel
theorem d_J1_charAt_3b067_7 : decode cJ1_charAt_3b067 7 = .ok (.iload_n 1, 1) := by decide +kernel
theorem d_J1_charAt_3b067_8 : decode cJ1_charAt_3b067 8 = .ok (.baload, 1) := by decide +kernel
theorem d_J1_charAt_3b067_9 : decode cJ1_charAt_3b067 9 = .ok (.sipush 255, 3) := by decide +kernel
theorem d_J1_charAt_3b067_12 : decode cJ1_charAt_3b067 12 = .ok (.iand, 1) := by decide +kernel
theorem d_J1_charAt_3b067_13 : decode cJ1_charAt_3b067 13 = .ok (.i2c, 1) := by decide +kernel
theorem d_J1_charAt_3b067_14 : decode cJ1_charAt_3b067 14 = .ok (.ireturn, 1) := by decide +kernel
def b_J1_charAt_3b067_0 (sx sy : Nat → Nat) : List AT := [tx_il 1, tx_al 0, tx_sal sy, tx_call (F_Jck sx sy) 2, tx_al 0, tx_il 1, tx_sba sy, tx_ic 255, tx_bin andI, tx_i2c, tx_rx]
def R_J1_charAt_3b067 (sx sy : Nat → Nat) (J : JT) (Q : QT) : Prop := (∀ ls st M, wpl J Q (b_J1_charAt_3b067_0 sx sy) ls st M → J 0 ls st M)
theorem P_J1_charAt_3b067 {sx sy : Nat → Nat} {J : JT} {Q : QT} (R : R_J1_charAt_3b067 sx sy J Q) {as : List Vl} {M : Mem} (h : F_Jc1 sx sy as M Q) : (enL as).length ≤ 2 ∧ J 0 (padL 2 (enL as)) [] M := by
  unfold F_Jc1 at h
  split at h
  · rename_i a j
    obtain ⟨i, hi, ha, hj, hQ⟩ := h
    have hjn : j.toNat < (strC i).length := by omega
    have hlt := sc_lt hi hjn
    refine ⟨Nat.le_of_ble_eq_true rfl, R _ _ _ ⟨i, hi, ha, hj, i, hi, ha, hj, ?_⟩⟩
    show (0 ≤ andI (((strC i).getD j.toNat 0 : Nat) : Int) 255 ∧ andI (((strC i).getD j.toNat 0 : Nat) : Int) 255 < 128) ∧ (0 ≤ andI (((strC i).getD j.toNat 0 : Nat) : Int) 255 ∧ andI (((strC i).getD j.toNat 0 : Nat) : Int) 255 < 128) ∧ Q (.inl (some (vI (andI (((strC i).getD j.toNat 0 : Nat) : Int) 255)))) M
    rw [ch_and _ hlt]
    exact ⟨⟨by omega, by omega⟩, ⟨by omega, by omega⟩, hQ⟩
  · exact h.elim
set_option maxRecDepth 100000 in
theorem L_J1_charAt_3b067 {p : Program} {l : Launch} {e : Env} {s : State} {m : MethodId} {args : Array Value} {below : List Frame} {meth : Method} {c : Code} {D : va_G} {ca : Nat → ClassId} {ad sx sy : Nat → Nat} {A : Nat → Prop} {Q : QT} (C0 : CX p s m args meth c cJ1_charAt_3b067 2 yJ1_charAt_3b067.cls D ca ad A) (hE : EX sx sy A s s.heap) (hr : meth.sig.returnType = (some .char)) (hno : ∀ x ∈ c.exceptionTable.toList, False) : R_J1_charAt_3b067 sx sy (JW p l e { frames := 12, cells := 0, slots := 6 * 0, locals := 243 } s m args below meth c 2 D ca ad A (vx_MQ below (Qn D ca ad A Q) (Qx D ca ad A Q) args s 0 (6 * 0) A) gz gz true) Q := s_iln C0 (d_J1_charAt_3b067_0) hgz (s_aln C0 (d_J1_charAt_3b067_1) hgz (s_sal C0 hE (d_J1_charAt_3b067_2) hgz (s_callS2 C0 hE (c_J0_checkIndex_df160 l) wg689 wg687 wg688 wg18 ⟨by decide, by decide⟩ (by decide +kernel) ⟨by decide, by decide⟩ ⟨by decide, by decide⟩ (d_J1_charAt_3b067_3) (fun x hx => (hno x hx).elim) ⟨by decide, by decide⟩ ⟨by decide, by decide⟩ (s_aln C0 (d_J1_charAt_3b067_6) hgz (s_iln C0 (d_J1_charAt_3b067_7) hgz (s_sba C0 hE (d_J1_charAt_3b067_8) hgz (s_si C0 (d_J1_charAt_3b067_9) hgz (s_and C0 (d_J1_charAt_3b067_12) hgz (s_i2c C0 (d_J1_charAt_3b067_13) hgz (s_rx C0 (Or.inl rfl) hr (d_J1_charAt_3b067_14) ⟨by decide, by decide⟩))) (okn rfl) rfl)))))))
theorem c_J1_charAt_3b067 (l : Launch) : Ctr2 l yJ1_charAt_3b067 cJ1_charAt_3b067 2 (some .char) 12 243 F_Jc1 := ctr2_of (by decide) (fun p e s m args below meth c D ca ad sx sy A Q as M C0 hE hr hno hF => P_J1_charAt_3b067 (L_J1_charAt_3b067 C0 hE hr hno) hF)
theorem wg686 : Cond.code ⟨"java/lang/StringLatin1", "charAt", "([BI)C"⟩ prog_23_method_2_code 2 (Option.some .char) ∈ GT := gt_mem 806 (by decide +kernel) rfl
theorem wg684 : Cond.methodLink "java/lang/String" 495 ⟨"java/lang/StringLatin1", "charAt", "([BI)C"⟩ ∈ GT := gt_mem 804 (by decide +kernel) rfl
theorem wg685 : Cond.static ⟨"java/lang/StringLatin1", "charAt", "([BI)C"⟩ ∈ GT := gt_mem 805 (by decide +kernel) rfl
theorem wg19 : Cond.initialized "java/lang/StringLatin1" ∈ GT := gt_mem 139 (by decide +kernel) rfl
theorem wg683 : Cond.code ⟨"java/lang/String", "isLatin1", "()Z"⟩ prog_22_method_154_code 1 (Option.some .boolean) ∈ GT := gt_mem 803 (by decide +kernel) rfl
theorem wg680 : Cond.methodLink "java/lang/String" 492 ⟨"java/lang/String", "isLatin1", "()Z"⟩ ∈ GT := gt_mem 800 (by decide +kernel) rfl
theorem wg681 : Cond.instanceMethod ⟨"java/lang/String", "isLatin1", "()Z"⟩ ∈ GT := gt_mem 801 (by decide +kernel) rfl
theorem wg682 : Cond.selects "java/lang/String" ⟨"java/lang/String", "isLatin1", "()Z"⟩ ⟨"java/lang/String", "isLatin1", "()Z"⟩ ∈ GT := gt_mem 802 (by decide +kernel) rfl
theorem d_J0_charAt_5068e_0 : decode cJ0_charAt_5068e 0 = .ok (.aload_n 0, 1) := by decide +kernel
theorem d_J0_charAt_5068e_1 : decode cJ0_charAt_5068e 1 = .ok (.invokevirtual 492, 3) := by decide +kernel
theorem d_J0_charAt_5068e_4 : decode cJ0_charAt_5068e 4 = .ok (.ifCond .eq 12, 3) := by decide +kernel
theorem d_J0_charAt_5068e_7 : decode cJ0_charAt_5068e 7 = .ok (.aload_n 0, 1) := by decide +kernel
theorem d_J0_charAt_5068e_8 : decode cJ0_charAt_5068e 8 = .ok (.getfield 9, 3) := by decide +kernel
theorem d_J0_charAt_5068e_11 : decode cJ0_charAt_5068e 11 = .ok (.iload_n 1, 1) := by decide +kernel
theorem d_J0_charAt_5068e_12 : decode cJ0_charAt_5068e 12 = .ok (.invokestatic 495, 3) := by decide +kernel
theorem d_J0_charAt_5068e_15 : decode cJ0_charAt_5068e 15 = .ok (.ireturn, 1) := by decide +kernel
def b_J0_charAt_5068e_0 (sx sy : Nat → Nat) : List AT := [tx_al 0, tx_callo sx (F_Jlat sx sy) 0, tx_ifz r_eq 16, tx_al 0, tx_sva sx sy, tx_il 1, tx_call (F_Jc1 sx sy) 2, tx_rx]
def R_J0_charAt_5068e (sx sy : Nat → Nat) (J : JT) (Q : QT) : Prop := (∀ ls st M, wpl J Q (b_J0_charAt_5068e_0 sx sy) ls st M → J 0 ls st M)
theorem P_J0_charAt_5068e {sx sy : Nat → Nat} {J : JT} {Q : QT} (R : R_J0_charAt_5068e sx sy J Q) {as : List Vl} {M : Mem} (h : F_Jchr sx sy as M Q) : (enL as).length ≤ 2 ∧ J 0 (padL 2 (enL as)) [] M := by
  unfold F_Jchr at h
  split at h
  · rename_i a j
    obtain ⟨i, hi, ha, hj, hQ⟩ := h
    have hjn : j.toNat < (strC i).length := by omega
    have hlt := sc_lt hi hjn
    exact ⟨Nat.le_of_ble_eq_true rfl, R _ _ _ ⟨⟨i, hi, ha⟩, ⟨i, hi, ha⟩, fun g => absurd (show (1 : Int) = 0 from g) (by decide), fun _ => ⟨i, hi, ha, i, hi, rfl, hj, ⟨⟨by omega, by omega⟩, hQ⟩⟩⟩⟩
  · exact h.elim
set_option maxRecDepth 100000 in
theorem L_J0_charAt_5068e {p : Program} {l : Launch} {e : Env} {s : State} {m : MethodId} {args : Array Value} {below : List Frame} {meth : Method} {c : Code} {D : va_G} {ca : Nat → ClassId} {ad sx sy : Nat → Nat} {A : Nat → Prop} {Q : QT} (C0 : CX p s m args meth c cJ0_charAt_5068e 2 yJ0_charAt_5068e.cls D ca ad A) (hE : EX sx sy A s s.heap) (hr : meth.sig.returnType = (some .char)) (hno : ∀ x ∈ c.exceptionTable.toList, False) : R_J0_charAt_5068e sx sy (JW p l e { frames := 13, cells := 0, slots := 6 * 0, locals := 264 } s m args below meth c 2 D ca ad A (vx_MQ below (Qn D ca ad A Q) (Qx D ca ad A Q) args s 0 (6 * 0) A) gz gz true) Q := s_aln C0 (d_J0_charAt_5068e_0) hgz (s_callo C0 hE (c_J0_isLatin1_aae02 l) wg683 wg680 wg681 wg682 wg18 ⟨by decide, by decide⟩ (by decide +kernel) ⟨by decide, by decide⟩ ⟨by decide, by decide⟩ (d_J0_charAt_5068e_1) (fun x hx => (hno x hx).elim) ⟨by decide, by decide⟩ ⟨by decide, by decide⟩ (s_zeq C0 (d_J0_charAt_5068e_4) (by decide) hgz hgz (fun _ _ _ h => h) (s_aln C0 (d_J0_charAt_5068e_7) hgz (s_sva C0 hE wg1672 (d_J0_charAt_5068e_8) hgz (s_iln C0 (d_J0_charAt_5068e_11) hgz (s_callS2 C0 hE (c_J1_charAt_3b067 l) wg686 wg684 wg685 wg19 ⟨by decide, by decide⟩ (by decide +kernel) ⟨by decide, by decide⟩ ⟨by decide, by decide⟩ (d_J0_charAt_5068e_12) (fun x hx => (hno x hx).elim) ⟨by decide, by decide⟩ ⟨by decide, by decide⟩ (s_rx C0 (Or.inl rfl) hr (d_J0_charAt_5068e_15) ⟨by decide, by decide⟩)))))))
theorem c_J0_charAt_5068e (l : Launch) : Ctr2 l yJ0_charAt_5068e cJ0_charAt_5068e 2 (some .char) 13 264 F_Jchr := ctr2_of (by decide) (fun p e s m args below meth c D ca ad sx sy A Q as M C0 hE hr hno hF => P_J0_charAt_5068e (L_J0_charAt_5068e C0 hE hr hno) hF)
