theorem wg484 : Cond.constant "java/lang/Integer" 267 252645135 ∈ GT := gt_mem 604 (by decide +kernel) rfl
theorem wg483 : Cond.constant "java/lang/Integer" 266 858993459 ∈ GT := gt_mem 603 (by decide +kernel) rfl
theorem wg482 : Cond.constant "java/lang/Integer" 265 1431655765 ∈ GT := gt_mem 602 (by decide +kernel) rfl
theorem d_J6_bitCount_0f7a4_0 : decode cJ6_bitCount_0f7a4 0 = .ok (.iload_n 0, 1) := by decide +kernel
theorem d_J6_bitCount_0f7a4_1 : decode cJ6_bitCount_0f7a4 1 = .ok (.iload_n 0, 1) := by decide +kernel
theorem d_J6_bitCount_0f7a4_2 : decode cJ6_bitCount_0f7a4 2 = .ok (.iconst 1, 1) := by decide +kernel
theorem d_J6_bitCount_0f7a4_3 : decode cJ6_bitCount_0f7a4 3 = .ok (.iushr, 1) := by decide +kernel
theorem d_J6_bitCount_0f7a4_4 : decode cJ6_bitCount_0f7a4 4 = .ok (.ldc_w 265, 3) := by decide +kernel
theorem d_J6_bitCount_0f7a4_7 : decode cJ6_bitCount_0f7a4 7 = .ok (.iand, 1) := by decide +kernel
theorem d_J6_bitCount_0f7a4_8 : decode cJ6_bitCount_0f7a4 8 = .ok (.isub, 1) := by decide +kernel
theorem d_J6_bitCount_0f7a4_9 : decode cJ6_bitCount_0f7a4 9 = .ok (.istore_n 0, 1) := by decide +kernel
theorem d_J6_bitCount_0f7a4_10 : decode cJ6_bitCount_0f7a4 10 = .ok (.iload_n 0, 1) := by decide +kernel
theorem d_J6_bitCount_0f7a4_11 : decode cJ6_bitCount_0f7a4 11 = .ok (.ldc_w 266, 3) := by decide +kernel
theorem d_J6_bitCount_0f7a4_14 : decode cJ6_bitCount_0f7a4 14 = .ok (.iand, 1) := by decide +kernel
theorem d_J6_bitCount_0f7a4_15 : decode cJ6_bitCount_0f7a4 15 = .ok (.iload_n 0, 1) := by decide +kernel
theorem d_J6_bitCount_0f7a4_16 : decode cJ6_bitCount_0f7a4 16 = .ok (.iconst 2, 1) := by decide +kernel
theorem d_J6_bitCount_0f7a4_17 : decode cJ6_bitCount_0f7a4 17 = .ok (.iushr, 1) := by decide +kernel
theorem d_J6_bitCount_0f7a4_18 : decode cJ6_bitCount_0f7a4 18 = .ok (.ldc_w 266, 3) := by decide +kernel
theorem d_J6_bitCount_0f7a4_21 : decode cJ6_bitCount_0f7a4 21 = .ok (.iand, 1) := by decide +kernel
theorem d_J6_bitCount_0f7a4_22 : decode cJ6_bitCount_0f7a4 22 = .ok (.iadd, 1) := by decide +kernel
theorem d_J6_bitCount_0f7a4_23 : decode cJ6_bitCount_0f7a4 23 = .ok (.istore_n 0, 1) := by decide +kernel
theorem d_J6_bitCount_0f7a4_24 : decode cJ6_bitCount_0f7a4 24 = .ok (.iload_n 0, 1) := by decide +kernel
theorem d_J6_bitCount_0f7a4_25 : decode cJ6_bitCount_0f7a4 25 = .ok (.iload_n 0, 1) := by decide +kernel
theorem d_J6_bitCount_0f7a4_26 : decode cJ6_bitCount_0f7a4 26 = .ok (.iconst 4, 1) := by decide +kernel
theorem d_J6_bitCount_0f7a4_27 : decode cJ6_bitCount_0f7a4 27 = .ok (.iushr, 1) := by decide +kernel
theorem d_J6_bitCount_0f7a4_28 : decode cJ6_bitCount_0f7a4 28 = .ok (.iadd, 1) := by decide +kernel
theorem d_J6_bitCount_0f7a4_29 : decode cJ6_bitCount_0f7a4 29 = .ok (.ldc_w 267, 3) := by decide +kernel
theorem d_J6_bitCount_0f7a4_32 : decode cJ6_bitCount_0f7a4 32 = .ok (.iand, 1) := by decide +kernel
theorem d_J6_bitCount_0f7a4_33 : decode cJ6_bitCount_0f7a4 33 = .ok (.istore_n 0, 1) := by decide +kernel
theorem d_J6_bitCount_0f7a4_34 : decode cJ6_bitCount_0f7a4 34 = .ok (.iload_n 0, 1) := by decide +kernel
theorem d_J6_bitCount_0f7a4_35 : decode cJ6_bitCount_0f7a4 35 = .ok (.iload_n 0, 1) := by decide +kernel
theorem d_J6_bitCount_0f7a4_36 : decode cJ6_bitCount_0f7a4 36 = .ok (.bipush 8, 2) := by decide +kernel
theorem d_J6_bitCount_0f7a4_38 : decode cJ6_bitCount_0f7a4 38 = .ok (.iushr, 1) := by decide +kernel
theorem d_J6_bitCount_0f7a4_39 : decode cJ6_bitCount_0f7a4 39 = .ok (.iadd, 1) := by decide +kernel
theorem d_J6_bitCount_0f7a4_40 : decode cJ6_bitCount_0f7a4 40 = .ok (.istore_n 0, 1) := by decide +kernel
theorem d_J6_bitCount_0f7a4_41 : decode cJ6_bitCount_0f7a4 41 = .ok (.iload_n 0, 1) := by decide +kernel
theorem d_J6_bitCount_0f7a4_42 : decode cJ6_bitCount_0f7a4 42 = .ok (.iload_n 0, 1) := by decide +kernel
theorem d_J6_bitCount_0f7a4_43 : decode cJ6_bitCount_0f7a4 43 = .ok (.bipush 16, 2) := by decide +kernel
theorem d_J6_bitCount_0f7a4_45 : decode cJ6_bitCount_0f7a4 45 = .ok (.iushr, 1) := by decide +kernel
theorem d_J6_bitCount_0f7a4_46 : decode cJ6_bitCount_0f7a4 46 = .ok (.iadd, 1) := by decide +kernel
theorem d_J6_bitCount_0f7a4_47 : decode cJ6_bitCount_0f7a4 47 = .ok (.istore_n 0, 1) := by decide +kernel
theorem d_J6_bitCount_0f7a4_48 : decode cJ6_bitCount_0f7a4 48 = .ok (.iload_n 0, 1) := by decide +kernel
theorem d_J6_bitCount_0f7a4_49 : decode cJ6_bitCount_0f7a4 49 = .ok (.bipush 63, 2) := by decide +kernel
theorem d_J6_bitCount_0f7a4_51 : decode cJ6_bitCount_0f7a4 51 = .ok (.iand, 1) := by decide +kernel
theorem d_J6_bitCount_0f7a4_52 : decode cJ6_bitCount_0f7a4 52 = .ok (.ireturn, 1) := by decide +kernel
set_option maxRecDepth 100000 in
theorem L_J6_bitCount_0f7a4 {p : Program} {l : Launch} {e : Env} {s : State} {m : MethodId} {args : Array Value} {below : List Frame} {meth : Method} {c : Code} {D : va_G} {ca : Nat → ClassId} {ad sx sy : Nat → Nat} {A : Nat → Prop} {Q : QT} (C0 : CX p s m args meth c cJ6_bitCount_0f7a4 1 yJ6_bitCount_0f7a4.cls D ca ad A) (hE : EX sx sy A s s.heap) (hr : meth.sig.returnType = (some .int)) (hno : ∀ x ∈ c.exceptionTable.toList, False) : R_J6_bitCount_0f7a4 (JW p l e { frames := 10, cells := 0, slots := 6 * 0, locals := 200 } s m args below meth c 1 D ca ad A (vx_MQ below (Qn D ca ad A Q) (Qx D ca ad A Q) args s 0 (6 * 0) A) gz gz true) Q := s_iln C0 (d_J6_bitCount_0f7a4_0) hgz (s_iln C0 (d_J6_bitCount_0f7a4_1) hgz (s_ic C0 (d_J6_bitCount_0f7a4_2) hgz (s_ush C0 (d_J6_bitCount_0f7a4_3) hgz (s_ldcw C0 (n := 1431655765) wg482 (d_J6_bitCount_0f7a4_4) hgz (s_and C0 (d_J6_bitCount_0f7a4_7) hgz (s_sub C0 (d_J6_bitCount_0f7a4_8) hgz (s_isn C0 (d_J6_bitCount_0f7a4_9) hgz (s_iln C0 (d_J6_bitCount_0f7a4_10) hgz (s_ldcw C0 (n := 858993459) wg483 (d_J6_bitCount_0f7a4_11) hgz (s_and C0 (d_J6_bitCount_0f7a4_14) hgz (s_iln C0 (d_J6_bitCount_0f7a4_15) hgz (s_ic C0 (d_J6_bitCount_0f7a4_16) hgz (s_ush C0 (d_J6_bitCount_0f7a4_17) hgz (s_ldcw C0 (n := 858993459) wg483 (d_J6_bitCount_0f7a4_18) hgz (s_and C0 (d_J6_bitCount_0f7a4_21) hgz (s_add C0 (d_J6_bitCount_0f7a4_22) hgz (s_isn C0 (d_J6_bitCount_0f7a4_23) hgz (s_iln C0 (d_J6_bitCount_0f7a4_24) hgz (s_iln C0 (d_J6_bitCount_0f7a4_25) hgz (s_ic C0 (d_J6_bitCount_0f7a4_26) hgz (s_ush C0 (d_J6_bitCount_0f7a4_27) hgz (s_add C0 (d_J6_bitCount_0f7a4_28) hgz (s_ldcw C0 (n := 252645135) wg484 (d_J6_bitCount_0f7a4_29) hgz (s_and C0 (d_J6_bitCount_0f7a4_32) hgz (s_isn C0 (d_J6_bitCount_0f7a4_33) hgz (s_iln C0 (d_J6_bitCount_0f7a4_34) hgz (s_iln C0 (d_J6_bitCount_0f7a4_35) hgz (s_bi C0 (d_J6_bitCount_0f7a4_36) hgz (s_ush C0 (d_J6_bitCount_0f7a4_38) hgz (s_add C0 (d_J6_bitCount_0f7a4_39) hgz (s_isn C0 (d_J6_bitCount_0f7a4_40) hgz (s_iln C0 (d_J6_bitCount_0f7a4_41) hgz (s_iln C0 (d_J6_bitCount_0f7a4_42) hgz (s_bi C0 (d_J6_bitCount_0f7a4_43) hgz (s_ush C0 (d_J6_bitCount_0f7a4_45) hgz (s_add C0 (d_J6_bitCount_0f7a4_46) hgz (s_isn C0 (d_J6_bitCount_0f7a4_47) hgz (s_iln C0 (d_J6_bitCount_0f7a4_48) hgz (s_bi C0 (d_J6_bitCount_0f7a4_49) hgz (s_and C0 (d_J6_bitCount_0f7a4_51) hgz (s_ri C0 hr (d_J6_bitCount_0f7a4_52) ⟨by decide, by decide⟩)) (okn rfl) rfl))))) (okn rfl) rfl)))))) (okn rfl) rfl))))) (okn rfl)))) (okn rfl))))))) (okn rfl))) (okn rfl)))) (okn rfl)))))) (okn rfl))) (okn rfl)))
theorem c_J6_bitCount_0f7a4 (l : Launch) : Ctr l yJ6_bitCount_0f7a4 cJ6_bitCount_0f7a4 1 (some .int) 10 200 0 (fun sx => (nf G_J6_bitCount_0f7a4)) := ctr_of (by decide) gz gz ⟨rfl, rfl⟩ (fun p e s m args below meth c D ca ad sx sy A Q as M C0 hE hr hno hF => P_J6_bitCount_0f7a4 (L_J6_bitCount_0f7a4 C0 hE hr hno) hF)
theorem d_J9_max_7cf53_0 : decode cJ9_max_7cf53 0 = .ok (.iload_n 0, 1) := by decide +kernel
theorem d_J9_max_7cf53_1 : decode cJ9_max_7cf53 1 = .ok (.iload_n 1, 1) := by decide +kernel
theorem d_J9_max_7cf53_2 : decode cJ9_max_7cf53 2 = .ok (.if_icmp .lt 7, 3) := by decide +kernel
theorem d_J9_max_7cf53_5 : decode cJ9_max_7cf53 5 = .ok (.iload_n 0, 1) := by decide +kernel
theorem d_J9_max_7cf53_6 : decode cJ9_max_7cf53 6 = .ok (.goto 4, 3) := by decide +kernel
theorem d_J9_max_7cf53_9 : decode cJ9_max_7cf53 9 = .ok (.iload_n 1, 1) := by decide +kernel
theorem d_J9_max_7cf53_10 : decode cJ9_max_7cf53 10 = .ok (.ireturn, 1) := by decide +kernel
set_option maxRecDepth 100000 in
theorem L_J9_max_7cf53 {p : Program} {l : Launch} {e : Env} {s : State} {m : MethodId} {args : Array Value} {below : List Frame} {meth : Method} {c : Code} {D : va_G} {ca : Nat → ClassId} {ad sx sy : Nat → Nat} {A : Nat → Prop} {Q : QT} (C0 : CX p s m args meth c cJ9_max_7cf53 2 yJ9_max_7cf53.cls D ca ad A) (hE : EX sx sy A s s.heap) (hr : meth.sig.returnType = (some .int)) (hno : ∀ x ∈ c.exceptionTable.toList, False) : R_J9_max_7cf53 (JW p l e { frames := 10, cells := 0, slots := 6 * 0, locals := 200 } s m args below meth c 2 D ca ad A (vx_MQ below (Qn D ca ad A Q) (Qx D ca ad A Q) args s 0 (6 * 0) A) gz gz true) Q := ⟨s_iln C0 (d_J9_max_7cf53_0) hgz (s_iln C0 (d_J9_max_7cf53_1) hgz (s_clt C0 (d_J9_max_7cf53_2) (by decide) hgz hgz (fun _ _ _ h => h) (s_iln C0 (d_J9_max_7cf53_5) hgz (s_goto C0 (tgt := 10) (d_J9_max_7cf53_6) (by decide) hgz (fun _ _ _ h => h))))),
  s_iln C0 (d_J9_max_7cf53_9) hgz (fun _ _ _ h => h),
  s_ri C0 hr (d_J9_max_7cf53_10) ⟨by decide, by decide⟩⟩
theorem c_J9_max_7cf53 (l : Launch) : Ctr l yJ9_max_7cf53 cJ9_max_7cf53 2 (some .int) 10 200 0 (fun sx => (nf G_J9_max_7cf53)) := ctr_ofF (Jvm.Free.JP.mathPlain rfl (by decide)) gz gz ⟨rfl, rfl⟩ (fun p e s m args below meth c D ca ad sx sy A Q as M C0 hE hr hno hF => P_J9_max_7cf53 (L_J9_max_7cf53 C0 hE hr hno) hF)
theorem d_J9_min_7cf53_0 : decode cJ9_min_7cf53 0 = .ok (.iload_n 0, 1) := by decide +kernel
theorem d_J9_min_7cf53_1 : decode cJ9_min_7cf53 1 = .ok (.iload_n 1, 1) := by decide +kernel
theorem d_J9_min_7cf53_2 : decode cJ9_min_7cf53 2 = .ok (.if_icmp .gt 7, 3) := by decide +kernel
theorem d_J9_min_7cf53_5 : decode cJ9_min_7cf53 5 = .ok (.iload_n 0, 1) := by decide +kernel
theorem d_J9_min_7cf53_6 : decode cJ9_min_7cf53 6 = .ok (.goto 4, 3) := by decide +kernel
theorem d_J9_min_7cf53_9 : decode cJ9_min_7cf53 9 = .ok (.iload_n 1, 1) := by decide +kernel
theorem d_J9_min_7cf53_10 : decode cJ9_min_7cf53 10 = .ok (.ireturn, 1) := by decide +kernel
set_option maxRecDepth 100000 in
theorem L_J9_min_7cf53 {p : Program} {l : Launch} {e : Env} {s : State} {m : MethodId} {args : Array Value} {below : List Frame} {meth : Method} {c : Code} {D : va_G} {ca : Nat → ClassId} {ad sx sy : Nat → Nat} {A : Nat → Prop} {Q : QT} (C0 : CX p s m args meth c cJ9_min_7cf53 2 yJ9_min_7cf53.cls D ca ad A) (hE : EX sx sy A s s.heap) (hr : meth.sig.returnType = (some .int)) (hno : ∀ x ∈ c.exceptionTable.toList, False) : R_J9_min_7cf53 (JW p l e { frames := 10, cells := 0, slots := 6 * 0, locals := 200 } s m args below meth c 2 D ca ad A (vx_MQ below (Qn D ca ad A Q) (Qx D ca ad A Q) args s 0 (6 * 0) A) gz gz true) Q := ⟨s_iln C0 (d_J9_min_7cf53_0) hgz (s_iln C0 (d_J9_min_7cf53_1) hgz (s_cgt C0 (d_J9_min_7cf53_2) (by decide) hgz hgz (fun _ _ _ h => h) (s_iln C0 (d_J9_min_7cf53_5) hgz (s_goto C0 (tgt := 10) (d_J9_min_7cf53_6) (by decide) hgz (fun _ _ _ h => h))))),
  s_iln C0 (d_J9_min_7cf53_9) hgz (fun _ _ _ h => h),
  s_ri C0 hr (d_J9_min_7cf53_10) ⟨by decide, by decide⟩⟩
theorem c_J9_min_7cf53 (l : Launch) : Ctr l yJ9_min_7cf53 cJ9_min_7cf53 2 (some .int) 10 200 0 (fun sx => (nf G_J9_min_7cf53)) := ctr_ofF (Jvm.Free.JP.mathPlain rfl (by decide)) gz gz ⟨rfl, rfl⟩ (fun p e s m args below meth c D ca ad sx sy A Q as M C0 hE hr hno hF => P_J9_min_7cf53 (L_J9_min_7cf53 C0 hE hr hno) hF)
theorem wg200 : Cond.fieldLink "WeighedHall$Ballots" 21 "WeighedHall$Ballots" "number" "I" ∈ GT := gt_mem 320 (by decide +kernel) rfl
theorem wg207 : Cond.fieldLink "WeighedHall$Ballots" 18 "WeighedHall$Ballots" "more" "[I" ∈ GT := gt_mem 327 (by decide +kernel) rfl
theorem wg205 : Cond.fieldLink "WeighedHall$Ballots" 15 "WeighedHall$Ballots" "con" "[I" ∈ GT := gt_mem 325 (by decide +kernel) rfl
theorem wg203 : Cond.fieldLink "WeighedHall$Ballots" 9 "WeighedHall$Ballots" "pro" "[I" ∈ GT := gt_mem 323 (by decide +kernel) rfl
theorem d_X0_add_0 : decode cX0_add 0 = .ok (.aload_n 0, 1) := by decide +kernel
theorem d_X0_add_1 : decode cX0_add 1 = .ok (.getfield 21, 3) := by decide +kernel
theorem d_X0_add_4 : decode cX0_add 4 = .ok (.bipush 9, 2) := by decide +kernel
theorem d_X0_add_6 : decode cX0_add 6 = .ok (.if_icmp .ge 43, 3) := by decide +kernel
theorem d_X0_add_9 : decode cX0_add 9 = .ok (.aload_n 0, 1) := by decide +kernel
theorem d_X0_add_10 : decode cX0_add 10 = .ok (.getfield 9, 3) := by decide +kernel
theorem d_X0_add_13 : decode cX0_add 13 = .ok (.aload_n 0, 1) := by decide +kernel
theorem d_X0_add_14 : decode cX0_add 14 = .ok (.getfield 21, 3) := by decide +kernel
theorem d_X0_add_17 : decode cX0_add 17 = .ok (.iload_n 1, 1) := by decide +kernel
theorem d_X0_add_18 : decode cX0_add 18 = .ok (.iastore, 1) := by decide +kernel
theorem d_X0_add_19 : decode cX0_add 19 = .ok (.aload_n 0, 1) := by decide +kernel
theorem d_X0_add_20 : decode cX0_add 20 = .ok (.getfield 15, 3) := by decide +kernel
theorem d_X0_add_23 : decode cX0_add 23 = .ok (.aload_n 0, 1) := by decide +kernel
theorem d_X0_add_24 : decode cX0_add 24 = .ok (.getfield 21, 3) := by decide +kernel
theorem d_X0_add_27 : decode cX0_add 27 = .ok (.iload_n 2, 1) := by decide +kernel
theorem d_X0_add_28 : decode cX0_add 28 = .ok (.iastore, 1) := by decide +kernel
theorem d_X0_add_29 : decode cX0_add 29 = .ok (.aload_n 0, 1) := by decide +kernel
theorem d_X0_add_30 : decode cX0_add 30 = .ok (.getfield 18, 3) := by decide +kernel
theorem d_X0_add_33 : decode cX0_add 33 = .ok (.aload_n 0, 1) := by decide +kernel
theorem d_X0_add_34 : decode cX0_add 34 = .ok (.getfield 21, 3) := by decide +kernel
theorem d_X0_add_37 : decode cX0_add 37 = .ok (.iload_n 3, 1) := by decide +kernel
theorem d_X0_add_38 : decode cX0_add 38 = .ok (.iastore, 1) := by decide +kernel
theorem d_X0_add_39 : decode cX0_add 39 = .ok (.aload_n 0, 1) := by decide +kernel
theorem d_X0_add_40 : decode cX0_add 40 = .ok (.dup, 1) := by decide +kernel
theorem d_X0_add_41 : decode cX0_add 41 = .ok (.getfield 21, 3) := by decide +kernel
theorem d_X0_add_44 : decode cX0_add 44 = .ok (.iconst 1, 1) := by decide +kernel
theorem d_X0_add_45 : decode cX0_add 45 = .ok (.iadd, 1) := by decide +kernel
theorem d_X0_add_46 : decode cX0_add 46 = .ok (.putfield 21, 3) := by decide +kernel
theorem d_X0_add_49 : decode cX0_add 49 = .ok (.return_, 1) := by decide +kernel
set_option maxRecDepth 100000 in
theorem L_X0_add {p : Program} {l : Launch} {e : Env} {s : State} {m : MethodId} {args : Array Value} {below : List Frame} {meth : Method} {c : Code} {D : va_G} {ca : Nat → ClassId} {ad sx sy : Nat → Nat} {A : Nat → Prop} {Q : QT} (C0 : CX p s m args meth c cX0_add 4 yX0_add.cls D ca ad A) (hE : EX sx sy A s s.heap) (hr : meth.sig.returnType = none) (hno : ∀ x ∈ c.exceptionTable.toList, False) : R_X0_add (JW p l e { frames := 10, cells := 0, slots := 6 * 0, locals := 200 } s m args below meth c 4 D ca ad A (vx_MQ below (Qn D ca ad A Q) (Qx D ca ad A Q) args s 0 (6 * 0) A) gz gz true) Q := ⟨s_aln C0 (d_X0_add_0) hgz (s_gi C0 (j := 0) (c0 := 0) rfl gX0 (by decide) rfl (by decide) wg200 (d_X0_add_1) hgz (s_bi C0 (d_X0_add_4) hgz (s_cge C0 (d_X0_add_6) (by decide) hgz hgz (fun _ _ _ h => h) (s_aln C0 (d_X0_add_9) hgz (s_gr C0 (j := 1) (c0 := 0) rfl gX0 (by decide) rfl rfl wg203 (d_X0_add_10) hgz (s_aln C0 (d_X0_add_13) hgz (s_gi C0 (j := 0) (c0 := 0) rfl gX0 (by decide) rfl (by decide) wg200 (d_X0_add_14) hgz (s_iln C0 (d_X0_add_17) hgz (s_iax C0 (d_X0_add_18) hgz (s_aln C0 (d_X0_add_19) hgz (s_gr C0 (j := 2) (c0 := 0) rfl gX0 (by decide) rfl rfl wg205 (d_X0_add_20) hgz (s_aln C0 (d_X0_add_23) hgz (s_gi C0 (j := 0) (c0 := 0) rfl gX0 (by decide) rfl (by decide) wg200 (d_X0_add_24) hgz (s_iln C0 (d_X0_add_27) hgz (s_iax C0 (d_X0_add_28) hgz (s_aln C0 (d_X0_add_29) hgz (s_gr C0 (j := 3) (c0 := 0) rfl gX0 (by decide) rfl rfl wg207 (d_X0_add_30) hgz (s_aln C0 (d_X0_add_33) hgz (s_gi C0 (j := 0) (c0 := 0) rfl gX0 (by decide) rfl (by decide) wg200 (d_X0_add_34) hgz (s_iln C0 (d_X0_add_37) hgz (s_iax C0 (d_X0_add_38) hgz (s_aln C0 (d_X0_add_39) hgz (s_dup C0 (d_X0_add_40) hgz (s_gi C0 (j := 0) (c0 := 0) rfl gX0 (by decide) rfl (by decide) wg200 (d_X0_add_41) hgz (s_ic C0 (d_X0_add_44) hgz (s_add C0 (d_X0_add_45) hgz (s_pi C0 (j := 0) (c0 := 0) rfl gX0 tyX0_ok nmX0 (by decide) rfl (by decide) rfl rfl wg200 (d_X0_add_46) hgz (fun _ _ _ h => h))) (okn rfl)))))))))))))))))))))))) (okn rfl) rfl)),
  s_rv C0 hr (d_X0_add_49) ⟨by decide, by decide⟩⟩
theorem c_X0_add (l : Launch) : Ctr l yX0_add cX0_add 4 none 10 200 0 (fun sx => (nf G_X0_add)) := ctr_of (by decide) gz gz ⟨rfl, rfl⟩ (fun p e s m args below meth c D ca ad sx sy A Q as M C0 hE hr hno hF => P_X0_add (L_X0_add C0 hE hr hno) hF)
theorem d_X0_clear_0 : decode cX0_clear 0 = .ok (.aload_n 0, 1) := by decide +kernel
theorem d_X0_clear_1 : decode cX0_clear 1 = .ok (.iconst 0, 1) := by decide +kernel
theorem d_X0_clear_2 : decode cX0_clear 2 = .ok (.putfield 21, 3) := by decide +kernel
theorem d_X0_clear_5 : decode cX0_clear 5 = .ok (.return_, 1) := by decide +kernel
set_option maxRecDepth 100000 in
theorem L_X0_clear {p : Program} {l : Launch} {e : Env} {s : State} {m : MethodId} {args : Array Value} {below : List Frame} {meth : Method} {c : Code} {D : va_G} {ca : Nat → ClassId} {ad sx sy : Nat → Nat} {A : Nat → Prop} {Q : QT} (C0 : CX p s m args meth c cX0_clear 1 yX0_clear.cls D ca ad A) (hE : EX sx sy A s s.heap) (hr : meth.sig.returnType = none) (hno : ∀ x ∈ c.exceptionTable.toList, False) : R_X0_clear (JW p l e { frames := 10, cells := 0, slots := 6 * 0, locals := 200 } s m args below meth c 1 D ca ad A (vx_MQ below (Qn D ca ad A Q) (Qx D ca ad A Q) args s 0 (6 * 0) A) gz gz true) Q := s_aln C0 (d_X0_clear_0) hgz (s_ic C0 (d_X0_clear_1) hgz (s_pi C0 (j := 0) (c0 := 0) rfl gX0 tyX0_ok nmX0 (by decide) rfl (by decide) rfl rfl wg200 (d_X0_clear_2) hgz (s_rv C0 hr (d_X0_clear_5) ⟨by decide, by decide⟩)) (okn rfl))
theorem c_X0_clear (l : Launch) : Ctr l yX0_clear cX0_clear 1 none 10 200 0 (fun sx => (nf G_X0_clear)) := ctr_of (by decide) gz gz ⟨rfl, rfl⟩ (fun p e s m args below meth c D ca ad sx sy A Q as M C0 hE hr hno hF => P_X0_clear (L_X0_clear C0 hE hr hno) hF)
theorem wn202 : Cond.fieldLinkNest "WeighedHall" 291 "WeighedHall$Ballots" "number" "I" "WeighedHall" ∈ NT := nt_mem 202 (by decide +kernel) rfl
theorem wg398 : Cond.fieldLink "WeighedHall" 39 "WeighedHall" "ballots" "LWeighedHall$Ballots;" ∈ GT := gt_mem 518 (by decide +kernel) rfl
theorem wg401 : Cond.fieldLink "WeighedHall" 126 "WeighedHall" "images" "I" ∈ GT := gt_mem 521 (by decide +kernel) rfl
theorem wn40 : Cond.fieldLinkNest "WeighedHall" 96 "WeighedHall$Tape" "size" "I" "WeighedHall" ∈ NT := nt_mem 40 (by decide +kernel) rfl
theorem wg393 : Cond.fieldLink "WeighedHall" 10 "WeighedHall" "tape" "LWeighedHall$Tape;" ∈ GT := gt_mem 513 (by decide +kernel) rfl
theorem d_X10_count_0 : decode cX10_count 0 = .ok (.iload_n 1, 1) := by decide +kernel
theorem d_X10_count_1 : decode cX10_count 1 = .ok (.tableswitch 48 0 2 #[27, 35, 40], 27) := by decide +kernel
theorem d_X10_count_28 : decode cX10_count 28 = .ok (.aload_n 0, 1) := by decide +kernel
theorem d_X10_count_29 : decode cX10_count 29 = .ok (.getfield 39, 3) := by decide +kernel
theorem d_X10_count_32 : decode cX10_count 32 = .ok (.getfield 291, 3) := by decide +kernel
theorem d_X10_count_35 : decode cX10_count 35 = .ok (.ireturn, 1) := by decide +kernel
theorem d_X10_count_36 : decode cX10_count 36 = .ok (.aload_n 0, 1) := by decide +kernel
theorem d_X10_count_37 : decode cX10_count 37 = .ok (.getfield 126, 3) := by decide +kernel
theorem d_X10_count_40 : decode cX10_count 40 = .ok (.ireturn, 1) := by decide +kernel
theorem d_X10_count_41 : decode cX10_count 41 = .ok (.aload_n 0, 1) := by decide +kernel
theorem d_X10_count_42 : decode cX10_count 42 = .ok (.getfield 10, 3) := by decide +kernel
theorem d_X10_count_45 : decode cX10_count 45 = .ok (.getfield 96, 3) := by decide +kernel
theorem d_X10_count_48 : decode cX10_count 48 = .ok (.ireturn, 1) := by decide +kernel
theorem d_X10_count_49 : decode cX10_count 49 = .ok (.iconst (-1), 1) := by decide +kernel
theorem d_X10_count_50 : decode cX10_count 50 = .ok (.ireturn, 1) := by decide +kernel
set_option maxRecDepth 100000 in
theorem L_X10_count {p : Program} {l : Launch} {e : Env} {s : State} {m : MethodId} {args : Array Value} {below : List Frame} {meth : Method} {c : Code} {D : va_G} {ca : Nat → ClassId} {ad sx sy : Nat → Nat} {A : Nat → Prop} {Q : QT} (C0 : CX p s m args meth c cX10_count 2 yX10_count.cls D ca ad A) (hE : EX sx sy A s s.heap) (hr : meth.sig.returnType = (some .int)) (hno : ∀ x ∈ c.exceptionTable.toList, False) : R_X10_count (JW p l e { frames := 10, cells := 0, slots := 6 * 0, locals := 200 } s m args below meth c 2 D ca ad A (vx_MQ below (Qn D ca ad A Q) (Qx D ca ad A Q) args s 0 (6 * 0) A) gz gz true) Q := ⟨s_iln C0 (d_X10_count_0) hgz (s_tab C0 (d_X10_count_1) (by decide) (by decide) (by decide) (by decide) (fun _ _ => hgz) (fun _ _ _ _ _ h => h)),
  s_aln C0 (d_X10_count_28) hgz (s_gr C0 (j := 5) (c0 := 10) rfl gX10 (by decide) rfl rfl wg398 (d_X10_count_29) hgz (s_giN C0 (j := 0) (c0 := 0) rfl gX0 (by decide) rfl (by decide) wn202 (d_X10_count_32) hgz (s_ri C0 hr (d_X10_count_35) ⟨by decide, by decide⟩))),
  s_aln C0 (d_X10_count_36) hgz (s_gi C0 (j := 8) (c0 := 10) rfl gX10 (by decide) rfl (by decide) wg401 (d_X10_count_37) hgz (s_ri C0 hr (d_X10_count_40) ⟨by decide, by decide⟩)),
  s_aln C0 (d_X10_count_41) hgz (s_gr C0 (j := 0) (c0 := 10) rfl gX10 (by decide) rfl rfl wg393 (d_X10_count_42) hgz (s_giN C0 (j := 1) (c0 := 9) rfl gX9 (by decide) rfl (by decide) wn40 (d_X10_count_45) hgz (s_ri C0 hr (d_X10_count_48) ⟨by decide, by decide⟩))),
  s_ic C0 (d_X10_count_49) hgz (s_ri C0 hr (d_X10_count_50) ⟨by decide, by decide⟩) (okn rfl)⟩
theorem c_X10_count (l : Launch) : Ctr l yX10_count cX10_count 2 (some .int) 10 200 0 (fun sx => (nf G_X10_count)) := ctr_of (by decide) gz gz ⟨rfl, rfl⟩ (fun p e s m args below meth c D ca ad sx sy A Q as M C0 hE hr hno hF => P_X10_count (L_X10_count C0 hE hr hno) hF)
theorem d_X10_cut_0 : decode cX10_cut 0 = .ok (.iload_n 1, 1) := by decide +kernel
theorem d_X10_cut_1 : decode cX10_cut 1 = .ok (.ifCond .le 9, 3) := by decide +kernel
theorem d_X10_cut_4 : decode cX10_cut 4 = .ok (.iload_n 0, 1) := by decide +kernel
theorem d_X10_cut_5 : decode cX10_cut 5 = .ok (.iload_n 1, 1) := by decide +kernel
theorem d_X10_cut_6 : decode cX10_cut 6 = .ok (.idiv, 1) := by decide +kernel
theorem d_X10_cut_7 : decode cX10_cut 7 = .ok (.goto 4, 3) := by decide +kernel
theorem d_X10_cut_10 : decode cX10_cut 10 = .ok (.iconst 0, 1) := by decide +kernel
theorem d_X10_cut_11 : decode cX10_cut 11 = .ok (.ireturn, 1) := by decide +kernel
set_option maxRecDepth 100000 in
theorem L_X10_cut {p : Program} {l : Launch} {e : Env} {s : State} {m : MethodId} {args : Array Value} {below : List Frame} {meth : Method} {c : Code} {D : va_G} {ca : Nat → ClassId} {ad sx sy : Nat → Nat} {A : Nat → Prop} {Q : QT} (C0 : CX p s m args meth c cX10_cut 2 yX10_cut.cls D ca ad A) (hE : EX sx sy A s s.heap) (hr : meth.sig.returnType = (some .int)) (hno : ∀ x ∈ c.exceptionTable.toList, False) : R_X10_cut (JW p l e { frames := 10, cells := 0, slots := 6 * 0, locals := 200 } s m args below meth c 2 D ca ad A (vx_MQ below (Qn D ca ad A Q) (Qx D ca ad A Q) args s 0 (6 * 0) A) gz gz true) Q := ⟨s_iln C0 (d_X10_cut_0) hgz (s_zle C0 (d_X10_cut_1) (by decide) hgz hgz (fun _ _ _ h => h) (s_iln C0 (d_X10_cut_4) hgz (s_iln C0 (d_X10_cut_5) hgz (s_div C0 (d_X10_cut_6) hgz (s_goto C0 (tgt := 11) (d_X10_cut_7) (by decide) hgz (fun _ _ _ h => h)))))),
  s_ic C0 (d_X10_cut_10) hgz (fun _ _ _ h => h) (okn rfl),
  s_ri C0 hr (d_X10_cut_11) ⟨by decide, by decide⟩⟩
theorem c_X10_cut (l : Launch) : Ctr l yX10_cut cX10_cut 2 (some .int) 10 200 0 (fun sx => (nf G_X10_cut)) := ctr_of (by decide) gz gz ⟨rfl, rfl⟩ (fun p e s m args below meth c D ca ad sx sy A Q as M C0 hE hr hno hF => P_X10_cut (L_X10_cut C0 hE hr hno) hF)
theorem wn48 : Cond.fieldLinkNest "WeighedHall" 141 "WeighedHall$Tape" "faultPlace" "I" "WeighedHall" ∈ NT := nt_mem 48 (by decide +kernel) rfl
theorem d_X10_fault_0 : decode cX10_fault 0 = .ok (.aload_n 0, 1) := by decide +kernel
theorem d_X10_fault_1 : decode cX10_fault 1 = .ok (.getfield 10, 3) := by decide +kernel
theorem d_X10_fault_4 : decode cX10_fault 4 = .ok (.getfield 141, 3) := by decide +kernel
theorem d_X10_fault_7 : decode cX10_fault 7 = .ok (.ireturn, 1) := by decide +kernel
set_option maxRecDepth 100000 in
theorem L_X10_fault {p : Program} {l : Launch} {e : Env} {s : State} {m : MethodId} {args : Array Value} {below : List Frame} {meth : Method} {c : Code} {D : va_G} {ca : Nat → ClassId} {ad sx sy : Nat → Nat} {A : Nat → Prop} {Q : QT} (C0 : CX p s m args meth c cX10_fault 1 yX10_fault.cls D ca ad A) (hE : EX sx sy A s s.heap) (hr : meth.sig.returnType = (some .int)) (hno : ∀ x ∈ c.exceptionTable.toList, False) : R_X10_fault (JW p l e { frames := 10, cells := 0, slots := 6 * 0, locals := 200 } s m args below meth c 1 D ca ad A (vx_MQ below (Qn D ca ad A Q) (Qx D ca ad A Q) args s 0 (6 * 0) A) gz gz true) Q := s_aln C0 (d_X10_fault_0) hgz (s_gr C0 (j := 0) (c0 := 10) rfl gX10 (by decide) rfl rfl wg393 (d_X10_fault_1) hgz (s_giN C0 (j := 6) (c0 := 9) rfl gX9 (by decide) rfl (by decide) wn48 (d_X10_fault_4) hgz (s_ri C0 hr (d_X10_fault_7) ⟨by decide, by decide⟩)))
theorem c_X10_fault (l : Launch) : Ctr l yX10_fault cX10_fault 1 (some .int) 10 200 0 (fun sx => (nf G_X10_fault)) := ctr_of (by decide) gz gz ⟨rfl, rfl⟩ (fun p e s m args below meth c D ca ad sx sy A Q as M C0 hE hr hno hF => P_X10_fault (L_X10_fault C0 hE hr hno) hF)
theorem wg41 : Cond.fieldLink "WeighedHall$Tape" 22 "WeighedHall$Tape" "size" "I" ∈ GT := gt_mem 161 (by decide +kernel) rfl
theorem wg39 : Cond.fieldLink "WeighedHall$Tape" 9 "WeighedHall$Tape" "bytes" "[B" ∈ GT := gt_mem 159 (by decide +kernel) rfl
theorem d_X9_put_0 : decode cX9_put 0 = .ok (.bipush 24, 2) := by decide +kernel
theorem d_X9_put_2 : decode cX9_put 2 = .ok (.istore_n 2, 1) := by decide +kernel
theorem d_X9_put_3 : decode cX9_put 3 = .ok (.iload_n 2, 1) := by decide +kernel
theorem d_X9_put_4 : decode cX9_put 4 = .ok (.ifCond .lt 42, 3) := by decide +kernel
theorem d_X9_put_7 : decode cX9_put 7 = .ok (.aload_n 0, 1) := by decide +kernel
theorem d_X9_put_8 : decode cX9_put 8 = .ok (.getfield 22, 3) := by decide +kernel
theorem d_X9_put_11 : decode cX9_put 11 = .ok (.sipush 600, 3) := by decide +kernel
theorem d_X9_put_14 : decode cX9_put 14 = .ok (.if_icmp .ge 26, 3) := by decide +kernel
theorem d_X9_put_17 : decode cX9_put 17 = .ok (.aload_n 0, 1) := by decide +kernel
theorem d_X9_put_18 : decode cX9_put 18 = .ok (.getfield 9, 3) := by decide +kernel
theorem d_X9_put_21 : decode cX9_put 21 = .ok (.aload_n 0, 1) := by decide +kernel
theorem d_X9_put_22 : decode cX9_put 22 = .ok (.getfield 22, 3) := by decide +kernel
theorem d_X9_put_25 : decode cX9_put 25 = .ok (.iload_n 1, 1) := by decide +kernel
theorem d_X9_put_26 : decode cX9_put 26 = .ok (.iload_n 2, 1) := by decide +kernel
theorem d_X9_put_27 : decode cX9_put 27 = .ok (.ishr, 1) := by decide +kernel
theorem d_X9_put_28 : decode cX9_put 28 = .ok (.i2b, 1) := by decide +kernel
theorem d_X9_put_29 : decode cX9_put 29 = .ok (.bastore, 1) := by decide +kernel
theorem d_X9_put_30 : decode cX9_put 30 = .ok (.aload_n 0, 1) := by decide +kernel
theorem d_X9_put_31 : decode cX9_put 31 = .ok (.dup, 1) := by decide +kernel
theorem d_X9_put_32 : decode cX9_put 32 = .ok (.getfield 22, 3) := by decide +kernel
theorem d_X9_put_35 : decode cX9_put 35 = .ok (.iconst 1, 1) := by decide +kernel
theorem d_X9_put_36 : decode cX9_put 36 = .ok (.iadd, 1) := by decide +kernel
theorem d_X9_put_37 : decode cX9_put 37 = .ok (.putfield 22, 3) := by decide +kernel
theorem d_X9_put_40 : decode cX9_put 40 = .ok (.iinc 2 (-8), 3) := by decide +kernel
theorem d_X9_put_43 : decode cX9_put 43 = .ok (.goto (-40), 3) := by decide +kernel
theorem d_X9_put_46 : decode cX9_put 46 = .ok (.return_, 1) := by decide +kernel
set_option maxRecDepth 100000 in
theorem L_X9_put {p : Program} {l : Launch} {e : Env} {s : State} {m : MethodId} {args : Array Value} {below : List Frame} {meth : Method} {c : Code} {D : va_G} {ca : Nat → ClassId} {ad sx sy : Nat → Nat} {A : Nat → Prop} {Q : QT} (C0 : CX p s m args meth c cX9_put 3 yX9_put.cls D ca ad A) (hE : EX sx sy A s s.heap) (hr : meth.sig.returnType = none) (hno : ∀ x ∈ c.exceptionTable.toList, False) : R_X9_put (JW p l e { frames := 10, cells := 0, slots := 6 * 0, locals := 200 } s m args below meth c 3 D ca ad A (vx_MQ below (Qn D ca ad A Q) (Qx D ca ad A Q) args s 0 (6 * 0) A) gz gz true) Q := ⟨s_bi C0 (d_X9_put_0) hgz (s_isn C0 (d_X9_put_2) hgz (fun _ _ _ h => h)) (okn rfl) rfl,
  s_iln C0 (d_X9_put_3) hgz (s_zlt C0 (d_X9_put_4) (by decide) hgz hgz (fun _ _ _ h => h) (s_aln C0 (d_X9_put_7) hgz (s_gi C0 (j := 1) (c0 := 9) rfl gX9 (by decide) rfl (by decide) wg41 (d_X9_put_8) hgz (s_si C0 (d_X9_put_11) hgz (s_cge C0 (d_X9_put_14) (by decide) hgz hgz (fun _ _ _ h => h) (s_aln C0 (d_X9_put_17) hgz (s_gr C0 (j := 0) (c0 := 9) rfl gX9 (by decide) rfl rfl wg39 (d_X9_put_18) hgz (s_aln C0 (d_X9_put_21) hgz (s_gi C0 (j := 1) (c0 := 9) rfl gX9 (by decide) rfl (by decide) wg41 (d_X9_put_22) hgz (s_iln C0 (d_X9_put_25) hgz (s_iln C0 (d_X9_put_26) hgz (s_shr C0 (d_X9_put_27) hgz (s_i2b C0 (d_X9_put_28) hgz (s_bax C0 (d_X9_put_29) hgz (s_aln C0 (d_X9_put_30) hgz (s_dup C0 (d_X9_put_31) hgz (s_gi C0 (j := 1) (c0 := 9) rfl gX9 (by decide) rfl (by decide) wg41 (d_X9_put_32) hgz (s_ic C0 (d_X9_put_35) hgz (s_add C0 (d_X9_put_36) hgz (s_pi C0 (j := 1) (c0 := 9) rfl gX9 tyX9_ok nmX9 (by decide) rfl (by decide) rfl rfl wg41 (d_X9_put_37) hgz (fun _ _ _ h => h))) (okn rfl))))))))))))))) (okn rfl) rfl)))),
  s_inc C0 (d_X9_put_40) hgz (s_goto C0 (tgt := 3) (d_X9_put_43) (by decide) hgz (fun _ _ _ h => h)),
  s_rv C0 hr (d_X9_put_46) ⟨by decide, by decide⟩⟩
theorem c_X9_put (l : Launch) : Ctr l yX9_put cX9_put 3 none 10 200 0 (fun sx => (nf G_X9_put)) := ctr_of (by decide) gz gz ⟨rfl, rfl⟩ (fun p e s m args below meth c D ca ad sx sy A Q as M C0 hE hr hno hF => P_X9_put (L_X9_put C0 hE hr hno) hF)
theorem wg455 : Cond.code ⟨"WeighedHall$Tape", "put", "(I)V"⟩ prog_11_method_2_code 3 (Option.none : Option FieldType) ∈ GT := gt_mem 575 (by decide +kernel) rfl
theorem wg2 : Cond.initialized "WeighedHall$Tape" ∈ GT := gt_mem 122 (by decide +kernel) rfl
theorem wn452 : Cond.methodLinkNest "WeighedHall" 100 ⟨"WeighedHall$Tape", "put", "(I)V"⟩ "WeighedHall" ∈ NT := nt_mem 452 (by decide +kernel) rfl
theorem wg454 : Cond.instanceMethod ⟨"WeighedHall$Tape", "put", "(I)V"⟩ ∈ GT := gt_mem 574 (by decide +kernel) rfl
theorem ws0 : Cond.selects "WeighedHall$Tape" ⟨"WeighedHall$Tape", "put", "(I)V"⟩ ⟨"WeighedHall$Tape", "put", "(I)V"⟩ ∈ GT := gt_mem 0 (by decide +kernel) rfl
theorem d_X10_feed_0 : decode cX10_feed 0 = .ok (.aload_n 0, 1) := by decide +kernel
theorem d_X10_feed_1 : decode cX10_feed 1 = .ok (.getfield 10, 3) := by decide +kernel
theorem d_X10_feed_4 : decode cX10_feed 4 = .ok (.getfield 96, 3) := by decide +kernel
theorem d_X10_feed_7 : decode cX10_feed 7 = .ok (.bipush 20, 2) := by decide +kernel
theorem d_X10_feed_9 : decode cX10_feed 9 = .ok (.iadd, 1) := by decide +kernel
theorem d_X10_feed_10 : decode cX10_feed 10 = .ok (.sipush 600, 3) := by decide +kernel
theorem d_X10_feed_13 : decode cX10_feed 13 = .ok (.if_icmp .le 5, 3) := by decide +kernel
theorem d_X10_feed_16 : decode cX10_feed 16 = .ok (.iconst (-1), 1) := by decide +kernel
theorem d_X10_feed_17 : decode cX10_feed 17 = .ok (.ireturn, 1) := by decide +kernel
theorem d_X10_feed_18 : decode cX10_feed 18 = .ok (.aload_n 0, 1) := by decide +kernel
theorem d_X10_feed_19 : decode cX10_feed 19 = .ok (.getfield 10, 3) := by decide +kernel
theorem d_X10_feed_22 : decode cX10_feed 22 = .ok (.iload_n 1, 1) := by decide +kernel
theorem d_X10_feed_23 : decode cX10_feed 23 = .ok (.invokevirtual 100, 3) := by decide +kernel
theorem d_X10_feed_26 : decode cX10_feed 26 = .ok (.aload_n 0, 1) := by decide +kernel
theorem d_X10_feed_27 : decode cX10_feed 27 = .ok (.getfield 10, 3) := by decide +kernel
theorem d_X10_feed_30 : decode cX10_feed 30 = .ok (.iload_n 2, 1) := by decide +kernel
theorem d_X10_feed_31 : decode cX10_feed 31 = .ok (.invokevirtual 100, 3) := by decide +kernel
theorem d_X10_feed_34 : decode cX10_feed 34 = .ok (.aload_n 0, 1) := by decide +kernel
theorem d_X10_feed_35 : decode cX10_feed 35 = .ok (.getfield 10, 3) := by decide +kernel
theorem d_X10_feed_38 : decode cX10_feed 38 = .ok (.iload_n 3, 1) := by decide +kernel
theorem d_X10_feed_39 : decode cX10_feed 39 = .ok (.invokevirtual 100, 3) := by decide +kernel
theorem d_X10_feed_42 : decode cX10_feed 42 = .ok (.aload_n 0, 1) := by decide +kernel
theorem d_X10_feed_43 : decode cX10_feed 43 = .ok (.getfield 10, 3) := by decide +kernel
theorem d_X10_feed_46 : decode cX10_feed 46 = .ok (.iload 4, 2) := by decide +kernel
theorem d_X10_feed_48 : decode cX10_feed 48 = .ok (.invokevirtual 100, 3) := by decide +kernel
theorem d_X10_feed_51 : decode cX10_feed 51 = .ok (.aload_n 0, 1) := by decide +kernel
theorem d_X10_feed_52 : decode cX10_feed 52 = .ok (.getfield 10, 3) := by decide +kernel
theorem d_X10_feed_55 : decode cX10_feed 55 = .ok (.iload 5, 2) := by decide +kernel
theorem d_X10_feed_57 : decode cX10_feed 57 = .ok (.invokevirtual 100, 3) := by decide +kernel
theorem d_X10_feed_60 : decode cX10_feed 60 = .ok (.aload_n 0, 1) := by decide +kernel
theorem d_X10_feed_61 : decode cX10_feed 61 = .ok (.getfield 10, 3) := by decide +kernel
theorem d_X10_feed_64 : decode cX10_feed 64 = .ok (.getfield 96, 3) := by decide +kernel
theorem d_X10_feed_67 : decode cX10_feed 67 = .ok (.ireturn, 1) := by decide +kernel
set_option maxRecDepth 100000 in
theorem L_X10_feed {p : Program} {l : Launch} {e : Env} {s : State} {m : MethodId} {args : Array Value} {below : List Frame} {meth : Method} {c : Code} {D : va_G} {ca : Nat → ClassId} {ad sx sy : Nat → Nat} {A : Nat → Prop} {Q : QT} (C0 : CX p s m args meth c cX10_feed 6 yX10_feed.cls D ca ad A) (hE : EX sx sy A s s.heap) (hr : meth.sig.returnType = (some .int)) (hno : ∀ x ∈ c.exceptionTable.toList, False) : R_X10_feed (JW p l e { frames := 11, cells := 0, slots := 6 * 0, locals := 222 } s m args below meth c 6 D ca ad A (vx_MQ below (Qn D ca ad A Q) (Qx D ca ad A Q) args s 0 (6 * 0) A) gz gz true) Q := ⟨s_aln C0 (d_X10_feed_0) hgz (s_gr C0 (j := 0) (c0 := 10) rfl gX10 (by decide) rfl rfl wg393 (d_X10_feed_1) hgz (s_giN C0 (j := 1) (c0 := 9) rfl gX9 (by decide) rfl (by decide) wn40 (d_X10_feed_4) hgz (s_bi C0 (d_X10_feed_7) hgz (s_add C0 (d_X10_feed_9) hgz (s_si C0 (d_X10_feed_10) hgz (s_cle C0 (d_X10_feed_13) (by decide) hgz hgz (fun _ _ _ h => h) (s_ic C0 (d_X10_feed_16) hgz (s_ri C0 hr (d_X10_feed_17) ⟨by decide, by decide⟩) (okn rfl))) (okn rfl) rfl)) (okn rfl) rfl))),
  s_aln C0 (d_X10_feed_18) hgz (s_gr C0 (j := 0) (c0 := 10) rfl gX10 (by decide) rfl rfl wg393 (d_X10_feed_19) hgz (s_iln C0 (d_X10_feed_22) hgz (s_callVN C0 hE (c_X9_put l) wg455 wn452 wg454 ws0 wg2 ⟨by decide, by decide⟩ (by decide +kernel) (c0 := 9) rfl ⟨by decide, by decide⟩ ⟨by decide, by decide⟩ (d_X10_feed_23) (fun x hx => (hno x hx).elim) ⟨by decide, by decide⟩ ⟨by decide, by decide⟩ (s_aln C0 (d_X10_feed_26) hgz (s_gr C0 (j := 0) (c0 := 10) rfl gX10 (by decide) rfl rfl wg393 (d_X10_feed_27) hgz (s_iln C0 (d_X10_feed_30) hgz (s_callVN C0 hE (c_X9_put l) wg455 wn452 wg454 ws0 wg2 ⟨by decide, by decide⟩ (by decide +kernel) (c0 := 9) rfl ⟨by decide, by decide⟩ ⟨by decide, by decide⟩ (d_X10_feed_31) (fun x hx => (hno x hx).elim) ⟨by decide, by decide⟩ ⟨by decide, by decide⟩ (s_aln C0 (d_X10_feed_34) hgz (s_gr C0 (j := 0) (c0 := 10) rfl gX10 (by decide) rfl rfl wg393 (d_X10_feed_35) hgz (s_iln C0 (d_X10_feed_38) hgz (s_callVN C0 hE (c_X9_put l) wg455 wn452 wg454 ws0 wg2 ⟨by decide, by decide⟩ (by decide +kernel) (c0 := 9) rfl ⟨by decide, by decide⟩ ⟨by decide, by decide⟩ (d_X10_feed_39) (fun x hx => (hno x hx).elim) ⟨by decide, by decide⟩ ⟨by decide, by decide⟩ (s_aln C0 (d_X10_feed_42) hgz (s_gr C0 (j := 0) (c0 := 10) rfl gX10 (by decide) rfl rfl wg393 (d_X10_feed_43) hgz (s_il C0 (d_X10_feed_46) hgz (s_callVN C0 hE (c_X9_put l) wg455 wn452 wg454 ws0 wg2 ⟨by decide, by decide⟩ (by decide +kernel) (c0 := 9) rfl ⟨by decide, by decide⟩ ⟨by decide, by decide⟩ (d_X10_feed_48) (fun x hx => (hno x hx).elim) ⟨by decide, by decide⟩ ⟨by decide, by decide⟩ (s_aln C0 (d_X10_feed_51) hgz (s_gr C0 (j := 0) (c0 := 10) rfl gX10 (by decide) rfl rfl wg393 (d_X10_feed_52) hgz (s_il C0 (d_X10_feed_55) hgz (s_callVN C0 hE (c_X9_put l) wg455 wn452 wg454 ws0 wg2 ⟨by decide, by decide⟩ (by decide +kernel) (c0 := 9) rfl ⟨by decide, by decide⟩ ⟨by decide, by decide⟩ (d_X10_feed_57) (fun x hx => (hno x hx).elim) ⟨by decide, by decide⟩ ⟨by decide, by decide⟩ (s_aln C0 (d_X10_feed_60) hgz (s_gr C0 (j := 0) (c0 := 10) rfl gX10 (by decide) rfl rfl wg393 (d_X10_feed_61) hgz (s_giN C0 (j := 1) (c0 := 9) rfl gX9 (by decide) rfl (by decide) wn40 (d_X10_feed_64) hgz (s_ri C0 hr (d_X10_feed_67) ⟨by decide, by decide⟩)))))))))))))))))))))))⟩
theorem c_X10_feed (l : Launch) : Ctr l yX10_feed cX10_feed 6 (some .int) 11 222 0 (fun sx => (nf G_X10_feed)) := ctr_of (by decide) gz gz ⟨rfl, rfl⟩ (fun p e s m args below meth c D ca ad sx sy A Q as M C0 hE hr hno hF => P_X10_feed (L_X10_feed C0 hE hr hno) hF)
theorem wn367 : Cond.fieldLinkNest "WeighedHall" 296 "WeighedHall$Hollows" "known" "Z" "WeighedHall" ∈ NT := nt_mem 367 (by decide +kernel) rfl
theorem wg408 : Cond.fieldLink "WeighedHall" 92 "WeighedHall" "hollows" "LWeighedHall$Hollows;" ∈ GT := gt_mem 528 (by decide +kernel) rfl
theorem wn275 : Cond.fieldLinkNest "WeighedHall" 353 "WeighedHall$Chronicle" "known" "Z" "WeighedHall" ∈ NT := nt_mem 275 (by decide +kernel) rfl
theorem wg402 : Cond.fieldLink "WeighedHall" 54 "WeighedHall" "chronicle" "LWeighedHall$Chronicle;" ∈ GT := gt_mem 522 (by decide +kernel) rfl
theorem d_X10_startAnew_0 : decode cX10_startAnew 0 = .ok (.aload_n 0, 1) := by decide +kernel
theorem d_X10_startAnew_1 : decode cX10_startAnew 1 = .ok (.getfield 54, 3) := by decide +kernel
theorem d_X10_startAnew_4 : decode cX10_startAnew 4 = .ok (.iconst 0, 1) := by decide +kernel
theorem d_X10_startAnew_5 : decode cX10_startAnew 5 = .ok (.putfield 353, 3) := by decide +kernel
theorem d_X10_startAnew_8 : decode cX10_startAnew 8 = .ok (.aload_n 0, 1) := by decide +kernel
theorem d_X10_startAnew_9 : decode cX10_startAnew 9 = .ok (.getfield 92, 3) := by decide +kernel
theorem d_X10_startAnew_12 : decode cX10_startAnew 12 = .ok (.iconst 0, 1) := by decide +kernel
theorem d_X10_startAnew_13 : decode cX10_startAnew 13 = .ok (.putfield 296, 3) := by decide +kernel
theorem d_X10_startAnew_16 : decode cX10_startAnew 16 = .ok (.return_, 1) := by decide +kernel
set_option maxRecDepth 100000 in
theorem L_X10_startAnew {p : Program} {l : Launch} {e : Env} {s : State} {m : MethodId} {args : Array Value} {below : List Frame} {meth : Method} {c : Code} {D : va_G} {ca : Nat → ClassId} {ad sx sy : Nat → Nat} {A : Nat → Prop} {Q : QT} (C0 : CX p s m args meth c cX10_startAnew 1 yX10_startAnew.cls D ca ad A) (hE : EX sx sy A s s.heap) (hr : meth.sig.returnType = none) (hno : ∀ x ∈ c.exceptionTable.toList, False) : R_X10_startAnew (JW p l e { frames := 10, cells := 0, slots := 6 * 0, locals := 200 } s m args below meth c 1 D ca ad A (vx_MQ below (Qn D ca ad A Q) (Qx D ca ad A Q) args s 0 (6 * 0) A) gz gz true) Q := s_aln C0 (d_X10_startAnew_0) hgz (s_gr C0 (j := 9) (c0 := 10) rfl gX10 (by decide) rfl rfl wg402 (d_X10_startAnew_1) hgz (s_ic C0 (d_X10_startAnew_4) hgz (s_pzN C0 (j := 4) (c0 := 3) rfl gX3 tyX3_ok nmX3 (by decide) rfl (by decide) rfl rfl wn275 (d_X10_startAnew_5) hgz (s_aln C0 (d_X10_startAnew_8) hgz (s_gr C0 (j := 15) (c0 := 10) rfl gX10 (by decide) rfl rfl wg408 (d_X10_startAnew_9) hgz (s_ic C0 (d_X10_startAnew_12) hgz (s_pzN C0 (j := 0) (c0 := 4) rfl gX4 tyX4_ok nmX4 (by decide) rfl (by decide) rfl rfl wn367 (d_X10_startAnew_13) hgz (s_rv C0 hr (d_X10_startAnew_16) ⟨by decide, by decide⟩)) (okn rfl))))) (okn rfl)))
theorem c_X10_startAnew (l : Launch) : Ctr l yX10_startAnew cX10_startAnew 1 none 10 200 0 (fun sx => (nf G_X10_startAnew)) := ctr_of (by decide) gz gz ⟨rfl, rfl⟩ (fun p e s m args below meth c D ca ad sx sy A Q as M C0 hE hr hno hF => P_X10_startAnew (L_X10_startAnew C0 hE hr hno) hF)
theorem wg523 : Cond.code ⟨"WeighedHall", "startAnew", "()V"⟩ prog_1_method_35_code 1 (Option.none : Option FieldType) ∈ GT := gt_mem 643 (by decide +kernel) rfl
theorem wg1 : Cond.initialized "WeighedHall" ∈ GT := gt_mem 121 (by decide +kernel) rfl
theorem wg520 : Cond.methodLink "WeighedHall" 129 ⟨"WeighedHall", "startAnew", "()V"⟩ ∈ GT := gt_mem 640 (by decide +kernel) rfl
theorem wg522 : Cond.instanceMethod ⟨"WeighedHall", "startAnew", "()V"⟩ ∈ GT := gt_mem 642 (by decide +kernel) rfl
theorem ws10 : Cond.selects "WeighedHall" ⟨"WeighedHall", "startAnew", "()V"⟩ ⟨"WeighedHall", "startAnew", "()V"⟩ ∈ GT := gt_mem 10 (by decide +kernel) rfl
theorem wg519 : Cond.code ⟨"WeighedHall$Ballots", "clear", "()V"⟩ prog_2_method_2_code 1 (Option.none : Option FieldType) ∈ GT := gt_mem 639 (by decide +kernel) rfl
theorem wg5 : Cond.initialized "WeighedHall$Ballots" ∈ GT := gt_mem 125 (by decide +kernel) rfl
theorem wn516 : Cond.methodLinkNest "WeighedHall" 125 ⟨"WeighedHall$Ballots", "clear", "()V"⟩ "WeighedHall" ∈ NT := nt_mem 516 (by decide +kernel) rfl
theorem wg518 : Cond.instanceMethod ⟨"WeighedHall$Ballots", "clear", "()V"⟩ ∈ GT := gt_mem 638 (by decide +kernel) rfl
theorem ws9 : Cond.selects "WeighedHall$Ballots" ⟨"WeighedHall$Ballots", "clear", "()V"⟩ ⟨"WeighedHall$Ballots", "clear", "()V"⟩ ∈ GT := gt_mem 9 (by decide +kernel) rfl
theorem d_X10_forget_0 : decode cX10_forget 0 = .ok (.aload_n 0, 1) := by decide +kernel
theorem d_X10_forget_1 : decode cX10_forget 1 = .ok (.getfield 39, 3) := by decide +kernel
theorem d_X10_forget_4 : decode cX10_forget 4 = .ok (.getfield 291, 3) := by decide +kernel
theorem d_X10_forget_7 : decode cX10_forget 7 = .ok (.istore_n 1, 1) := by decide +kernel
theorem d_X10_forget_8 : decode cX10_forget 8 = .ok (.aload_n 0, 1) := by decide +kernel
theorem d_X10_forget_9 : decode cX10_forget 9 = .ok (.getfield 39, 3) := by decide +kernel
theorem d_X10_forget_12 : decode cX10_forget 12 = .ok (.invokevirtual 125, 3) := by decide +kernel
theorem d_X10_forget_15 : decode cX10_forget 15 = .ok (.aload_n 0, 1) := by decide +kernel
theorem d_X10_forget_16 : decode cX10_forget 16 = .ok (.invokevirtual 129, 3) := by decide +kernel
theorem d_X10_forget_19 : decode cX10_forget 19 = .ok (.iload_n 1, 1) := by decide +kernel
theorem d_X10_forget_20 : decode cX10_forget 20 = .ok (.ireturn, 1) := by decide +kernel
set_option maxRecDepth 100000 in
theorem L_X10_forget {p : Program} {l : Launch} {e : Env} {s : State} {m : MethodId} {args : Array Value} {below : List Frame} {meth : Method} {c : Code} {D : va_G} {ca : Nat → ClassId} {ad sx sy : Nat → Nat} {A : Nat → Prop} {Q : QT} (C0 : CX p s m args meth c cX10_forget 2 yX10_forget.cls D ca ad A) (hE : EX sx sy A s s.heap) (hr : meth.sig.returnType = (some .int)) (hno : ∀ x ∈ c.exceptionTable.toList, False) : R_X10_forget (JW p l e { frames := 11, cells := 0, slots := 6 * 0, locals := 220 } s m args below meth c 2 D ca ad A (vx_MQ below (Qn D ca ad A Q) (Qx D ca ad A Q) args s 0 (6 * 0) A) gz gz true) Q := s_aln C0 (d_X10_forget_0) hgz (s_gr C0 (j := 5) (c0 := 10) rfl gX10 (by decide) rfl rfl wg398 (d_X10_forget_1) hgz (s_giN C0 (j := 0) (c0 := 0) rfl gX0 (by decide) rfl (by decide) wn202 (d_X10_forget_4) hgz (s_isn C0 (d_X10_forget_7) hgz (s_aln C0 (d_X10_forget_8) hgz (s_gr C0 (j := 5) (c0 := 10) rfl gX10 (by decide) rfl rfl wg398 (d_X10_forget_9) hgz (s_callVN C0 hE (c_X0_clear l) wg519 wn516 wg518 ws9 wg5 ⟨by decide, by decide⟩ (by decide +kernel) (c0 := 0) rfl ⟨by decide, by decide⟩ ⟨by decide, by decide⟩ (d_X10_forget_12) (fun x hx => (hno x hx).elim) ⟨by decide, by decide⟩ ⟨by decide, by decide⟩ (s_aln C0 (d_X10_forget_15) hgz (s_callV C0 hE (c_X10_startAnew l) wg523 wg520 wg522 ws10 wg1 ⟨by decide, by decide⟩ (by decide +kernel) (c0 := 10) rfl ⟨by decide, by decide⟩ ⟨by decide, by decide⟩ (d_X10_forget_16) (fun x hx => (hno x hx).elim) ⟨by decide, by decide⟩ ⟨by decide, by decide⟩ (s_iln C0 (d_X10_forget_19) hgz (s_ri C0 hr (d_X10_forget_20) ⟨by decide, by decide⟩))))))))))
theorem c_X10_forget (l : Launch) : Ctr l yX10_forget cX10_forget 2 (some .int) 11 220 0 (fun sx => (nf G_X10_forget)) := ctr_of (by decide) gz gz ⟨rfl, rfl⟩ (fun p e s m args below meth c D ca ad sx sy A Q as M C0 hE hr hno hF => P_X10_forget (L_X10_forget C0 hE hr hno) hF)
theorem d_X10_greatestShared_0 : decode cX10_greatestShared 0 = .ok (.iload_n 0, 1) := by decide +kernel
theorem d_X10_greatestShared_1 : decode cX10_greatestShared 1 = .ok (.istore_n 2, 1) := by decide +kernel
theorem d_X10_greatestShared_2 : decode cX10_greatestShared 2 = .ok (.iload_n 1, 1) := by decide +kernel
theorem d_X10_greatestShared_3 : decode cX10_greatestShared 3 = .ok (.istore_n 3, 1) := by decide +kernel
theorem d_X10_greatestShared_4 : decode cX10_greatestShared 4 = .ok (.iconst 0, 1) := by decide +kernel
theorem d_X10_greatestShared_5 : decode cX10_greatestShared 5 = .ok (.istore 4, 2) := by decide +kernel
theorem d_X10_greatestShared_7 : decode cX10_greatestShared 7 = .ok (.iload 4, 2) := by decide +kernel
theorem d_X10_greatestShared_9 : decode cX10_greatestShared 9 = .ok (.bipush 64, 2) := by decide +kernel
theorem d_X10_greatestShared_11 : decode cX10_greatestShared 11 = .ok (.if_icmp .ge 23, 3) := by decide +kernel
theorem d_X10_greatestShared_14 : decode cX10_greatestShared 14 = .ok (.iload_n 3, 1) := by decide +kernel
theorem d_X10_greatestShared_15 : decode cX10_greatestShared 15 = .ok (.ifCond .le 19, 3) := by decide +kernel
theorem d_X10_greatestShared_18 : decode cX10_greatestShared 18 = .ok (.iload_n 2, 1) := by decide +kernel
theorem d_X10_greatestShared_19 : decode cX10_greatestShared 19 = .ok (.iload_n 3, 1) := by decide +kernel
theorem d_X10_greatestShared_20 : decode cX10_greatestShared 20 = .ok (.irem, 1) := by decide +kernel
theorem d_X10_greatestShared_21 : decode cX10_greatestShared 21 = .ok (.istore 5, 2) := by decide +kernel
theorem d_X10_greatestShared_23 : decode cX10_greatestShared 23 = .ok (.iload_n 3, 1) := by decide +kernel
theorem d_X10_greatestShared_24 : decode cX10_greatestShared 24 = .ok (.istore_n 2, 1) := by decide +kernel
theorem d_X10_greatestShared_25 : decode cX10_greatestShared 25 = .ok (.iload 5, 2) := by decide +kernel
theorem d_X10_greatestShared_27 : decode cX10_greatestShared 27 = .ok (.istore_n 3, 1) := by decide +kernel
theorem d_X10_greatestShared_28 : decode cX10_greatestShared 28 = .ok (.iinc 4 1, 3) := by decide +kernel
theorem d_X10_greatestShared_31 : decode cX10_greatestShared 31 = .ok (.goto (-24), 3) := by decide +kernel
theorem d_X10_greatestShared_34 : decode cX10_greatestShared 34 = .ok (.iload_n 2, 1) := by decide +kernel
theorem d_X10_greatestShared_35 : decode cX10_greatestShared 35 = .ok (.ireturn, 1) := by decide +kernel
set_option maxRecDepth 100000 in
theorem L_X10_greatestShared {p : Program} {l : Launch} {e : Env} {s : State} {m : MethodId} {args : Array Value} {below : List Frame} {meth : Method} {c : Code} {D : va_G} {ca : Nat → ClassId} {ad sx sy : Nat → Nat} {A : Nat → Prop} {Q : QT} (C0 : CX p s m args meth c cX10_greatestShared 6 yX10_greatestShared.cls D ca ad A) (hE : EX sx sy A s s.heap) (hr : meth.sig.returnType = (some .int)) (hno : ∀ x ∈ c.exceptionTable.toList, False) : R_X10_greatestShared (JW p l e { frames := 10, cells := 0, slots := 6 * 0, locals := 200 } s m args below meth c 6 D ca ad A (vx_MQ below (Qn D ca ad A Q) (Qx D ca ad A Q) args s 0 (6 * 0) A) gz gz true) Q := ⟨s_iln C0 (d_X10_greatestShared_0) hgz (s_isn C0 (d_X10_greatestShared_1) hgz (s_iln C0 (d_X10_greatestShared_2) hgz (s_isn C0 (d_X10_greatestShared_3) hgz (s_ic C0 (d_X10_greatestShared_4) hgz (s_is C0 (d_X10_greatestShared_5) hgz (fun _ _ _ h => h)) (okn rfl))))),
  s_il C0 (d_X10_greatestShared_7) hgz (s_bi C0 (d_X10_greatestShared_9) hgz (s_cge C0 (d_X10_greatestShared_11) (by decide) hgz hgz (fun _ _ _ h => h) (s_iln C0 (d_X10_greatestShared_14) hgz (s_zle C0 (d_X10_greatestShared_15) (by decide) hgz hgz (fun _ _ _ h => h) (s_iln C0 (d_X10_greatestShared_18) hgz (s_iln C0 (d_X10_greatestShared_19) hgz (s_rem C0 (d_X10_greatestShared_20) hgz (s_is C0 (d_X10_greatestShared_21) hgz (s_iln C0 (d_X10_greatestShared_23) hgz (s_isn C0 (d_X10_greatestShared_24) hgz (s_il C0 (d_X10_greatestShared_25) hgz (s_isn C0 (d_X10_greatestShared_27) hgz (s_inc C0 (d_X10_greatestShared_28) hgz (s_goto C0 (tgt := 7) (d_X10_greatestShared_31) (by decide) hgz (fun _ _ _ h => h)))))))))))))) (okn rfl) rfl),
  s_iln C0 (d_X10_greatestShared_34) hgz (s_ri C0 hr (d_X10_greatestShared_35) ⟨by decide, by decide⟩)⟩
theorem c_X10_greatestShared (l : Launch) : Ctr l yX10_greatestShared cX10_greatestShared 6 (some .int) 10 200 0 (fun sx => (nf G_X10_greatestShared)) := ctr_of (by decide) gz gz ⟨rfl, rfl⟩ (fun p e s m args below meth c D ca ad sx sy A Q as M C0 hE hr hno hF => P_X10_greatestShared (L_X10_greatestShared C0 hE hr hno) hF)
theorem d_X10_isIn_0 : decode cX10_isIn 0 = .ok (.iload_n 1, 1) := by decide +kernel
theorem d_X10_isIn_1 : decode cX10_isIn 1 = .ok (.iload_n 0, 1) := by decide +kernel
theorem d_X10_isIn_2 : decode cX10_isIn 2 = .ok (.ishr, 1) := by decide +kernel
theorem d_X10_isIn_3 : decode cX10_isIn 3 = .ok (.iconst 1, 1) := by decide +kernel
theorem d_X10_isIn_4 : decode cX10_isIn 4 = .ok (.iand, 1) := by decide +kernel
theorem d_X10_isIn_5 : decode cX10_isIn 5 = .ok (.iconst 1, 1) := by decide +kernel
theorem d_X10_isIn_6 : decode cX10_isIn 6 = .ok (.if_icmp .ne 7, 3) := by decide +kernel
theorem d_X10_isIn_9 : decode cX10_isIn 9 = .ok (.iconst 1, 1) := by decide +kernel
theorem d_X10_isIn_10 : decode cX10_isIn 10 = .ok (.goto 4, 3) := by decide +kernel
theorem d_X10_isIn_13 : decode cX10_isIn 13 = .ok (.iconst 0, 1) := by decide +kernel
theorem d_X10_isIn_14 : decode cX10_isIn 14 = .ok (.ireturn, 1) := by decide +kernel
set_option maxRecDepth 100000 in
theorem L_X10_isIn {p : Program} {l : Launch} {e : Env} {s : State} {m : MethodId} {args : Array Value} {below : List Frame} {meth : Method} {c : Code} {D : va_G} {ca : Nat → ClassId} {ad sx sy : Nat → Nat} {A : Nat → Prop} {Q : QT} (C0 : CX p s m args meth c cX10_isIn 2 yX10_isIn.cls D ca ad A) (hE : EX sx sy A s s.heap) (hr : meth.sig.returnType = (some .boolean)) (hno : ∀ x ∈ c.exceptionTable.toList, False) : R_X10_isIn (JW p l e { frames := 10, cells := 0, slots := 6 * 0, locals := 200 } s m args below meth c 2 D ca ad A (vx_MQ below (Qn D ca ad A Q) (Qx D ca ad A Q) args s 0 (6 * 0) A) gz gz true) Q := ⟨s_iln C0 (d_X10_isIn_0) hgz (s_iln C0 (d_X10_isIn_1) hgz (s_shr C0 (d_X10_isIn_2) hgz (s_ic C0 (d_X10_isIn_3) hgz (s_and C0 (d_X10_isIn_4) hgz (s_ic C0 (d_X10_isIn_5) hgz (s_cne C0 (d_X10_isIn_6) (by decide) hgz hgz (fun _ _ _ h => h) (s_ic C0 (d_X10_isIn_9) hgz (s_goto C0 (tgt := 14) (d_X10_isIn_10) (by decide) hgz (fun _ _ _ h => h)) (okn rfl))) (okn rfl))) (okn rfl)))),
  s_ic C0 (d_X10_isIn_13) hgz (fun _ _ _ h => h) (okn rfl),
  s_rz C0 hr (d_X10_isIn_14) ⟨by decide, by decide⟩⟩
theorem c_X10_isIn (l : Launch) : Ctr l yX10_isIn cX10_isIn 2 (some .boolean) 10 200 0 (fun sx => (nf G_X10_isIn)) := ctr_of (by decide) gz gz ⟨rfl, rfl⟩ (fun p e s m args below meth c D ca ad sx sy A Q as M C0 hE hr hno hF => P_X10_isIn (L_X10_isIn C0 hE hr hno) hF)
theorem d_X10_isLaw_0 : decode cX10_isLaw 0 = .ok (.iload_n 0, 1) := by decide +kernel
theorem d_X10_isLaw_1 : decode cX10_isLaw 1 = .ok (.ifCond .lt 12, 3) := by decide +kernel
theorem d_X10_isLaw_4 : decode cX10_isLaw 4 = .ok (.iload_n 0, 1) := by decide +kernel
theorem d_X10_isLaw_5 : decode cX10_isLaw 5 = .ok (.iconst 3, 1) := by decide +kernel
theorem d_X10_isLaw_6 : decode cX10_isLaw 6 = .ok (.if_icmp .ge 7, 3) := by decide +kernel
theorem d_X10_isLaw_9 : decode cX10_isLaw 9 = .ok (.iconst 1, 1) := by decide +kernel
theorem d_X10_isLaw_10 : decode cX10_isLaw 10 = .ok (.goto 4, 3) := by decide +kernel
theorem d_X10_isLaw_13 : decode cX10_isLaw 13 = .ok (.iconst 0, 1) := by decide +kernel
theorem d_X10_isLaw_14 : decode cX10_isLaw 14 = .ok (.ireturn, 1) := by decide +kernel
set_option maxRecDepth 100000 in
theorem L_X10_isLaw {p : Program} {l : Launch} {e : Env} {s : State} {m : MethodId} {args : Array Value} {below : List Frame} {meth : Method} {c : Code} {D : va_G} {ca : Nat → ClassId} {ad sx sy : Nat → Nat} {A : Nat → Prop} {Q : QT} (C0 : CX p s m args meth c cX10_isLaw 1 yX10_isLaw.cls D ca ad A) (hE : EX sx sy A s s.heap) (hr : meth.sig.returnType = (some .boolean)) (hno : ∀ x ∈ c.exceptionTable.toList, False) : R_X10_isLaw (JW p l e { frames := 10, cells := 0, slots := 6 * 0, locals := 200 } s m args below meth c 1 D ca ad A (vx_MQ below (Qn D ca ad A Q) (Qx D ca ad A Q) args s 0 (6 * 0) A) gz gz true) Q := ⟨s_iln C0 (d_X10_isLaw_0) hgz (s_zlt C0 (d_X10_isLaw_1) (by decide) hgz hgz (fun _ _ _ h => h) (s_iln C0 (d_X10_isLaw_4) hgz (s_ic C0 (d_X10_isLaw_5) hgz (s_cge C0 (d_X10_isLaw_6) (by decide) hgz hgz (fun _ _ _ h => h) (s_ic C0 (d_X10_isLaw_9) hgz (s_goto C0 (tgt := 14) (d_X10_isLaw_10) (by decide) hgz (fun _ _ _ h => h)) (okn rfl))) (okn rfl)))),
  s_ic C0 (d_X10_isLaw_13) hgz (fun _ _ _ h => h) (okn rfl),
  s_rz C0 hr (d_X10_isLaw_14) ⟨by decide, by decide⟩⟩
theorem c_X10_isLaw (l : Launch) : Ctr l yX10_isLaw cX10_isLaw 1 (some .boolean) 10 200 0 (fun sx => (nf G_X10_isLaw)) := ctr_of (by decide) gz gz ⟨rfl, rfl⟩ (fun p e s m args below meth c D ca ad sx sy A Q as M C0 hE hr hno hF => P_X10_isLaw (L_X10_isLaw C0 hE hr hno) hF)
theorem d_X10_isMinute_0 : decode cX10_isMinute 0 = .ok (.iload_n 0, 1) := by decide +kernel
theorem d_X10_isMinute_1 : decode cX10_isMinute 1 = .ok (.ifCond .lt 13, 3) := by decide +kernel
theorem d_X10_isMinute_4 : decode cX10_isMinute 4 = .ok (.iload_n 0, 1) := by decide +kernel
theorem d_X10_isMinute_5 : decode cX10_isMinute 5 = .ok (.bipush 120, 2) := by decide +kernel
theorem d_X10_isMinute_7 : decode cX10_isMinute 7 = .ok (.if_icmp .ge 7, 3) := by decide +kernel
theorem d_X10_isMinute_10 : decode cX10_isMinute 10 = .ok (.iconst 1, 1) := by decide +kernel
theorem d_X10_isMinute_11 : decode cX10_isMinute 11 = .ok (.goto 4, 3) := by decide +kernel
theorem d_X10_isMinute_14 : decode cX10_isMinute 14 = .ok (.iconst 0, 1) := by decide +kernel
theorem d_X10_isMinute_15 : decode cX10_isMinute 15 = .ok (.ireturn, 1) := by decide +kernel
set_option maxRecDepth 100000 in
theorem L_X10_isMinute {p : Program} {l : Launch} {e : Env} {s : State} {m : MethodId} {args : Array Value} {below : List Frame} {meth : Method} {c : Code} {D : va_G} {ca : Nat → ClassId} {ad sx sy : Nat → Nat} {A : Nat → Prop} {Q : QT} (C0 : CX p s m args meth c cX10_isMinute 1 yX10_isMinute.cls D ca ad A) (hE : EX sx sy A s s.heap) (hr : meth.sig.returnType = (some .boolean)) (hno : ∀ x ∈ c.exceptionTable.toList, False) : R_X10_isMinute (JW p l e { frames := 10, cells := 0, slots := 6 * 0, locals := 200 } s m args below meth c 1 D ca ad A (vx_MQ below (Qn D ca ad A Q) (Qx D ca ad A Q) args s 0 (6 * 0) A) gz gz true) Q := ⟨s_iln C0 (d_X10_isMinute_0) hgz (s_zlt C0 (d_X10_isMinute_1) (by decide) hgz hgz (fun _ _ _ h => h) (s_iln C0 (d_X10_isMinute_4) hgz (s_bi C0 (d_X10_isMinute_5) hgz (s_cge C0 (d_X10_isMinute_7) (by decide) hgz hgz (fun _ _ _ h => h) (s_ic C0 (d_X10_isMinute_10) hgz (s_goto C0 (tgt := 15) (d_X10_isMinute_11) (by decide) hgz (fun _ _ _ h => h)) (okn rfl))) (okn rfl) rfl))),
  s_ic C0 (d_X10_isMinute_14) hgz (fun _ _ _ h => h) (okn rfl),
  s_rz C0 hr (d_X10_isMinute_15) ⟨by decide, by decide⟩⟩
theorem c_X10_isMinute (l : Launch) : Ctr l yX10_isMinute cX10_isMinute 1 (some .boolean) 10 200 0 (fun sx => (nf G_X10_isMinute)) := ctr_of (by decide) gz gz ⟨rfl, rfl⟩ (fun p e s m args below meth c D ca ad sx sy A Q as M C0 hE hr hno hF => P_X10_isMinute (L_X10_isMinute C0 hE hr hno) hF)
theorem wg481 : Cond.code ⟨"java/lang/Integer", "bitCount", "(I)I"⟩ prog_19_method_49_code 1 (Option.some .int) ∈ GT := gt_mem 601 (by decide +kernel) rfl
theorem wg24 : Cond.initialized "java/lang/Integer" ∈ GT := gt_mem 144 (by decide +kernel) rfl
theorem wg479 : Cond.methodLink "WeighedHall" 229 ⟨"java/lang/Integer", "bitCount", "(I)I"⟩ ∈ GT := gt_mem 599 (by decide +kernel) rfl
theorem wg480 : Cond.static ⟨"java/lang/Integer", "bitCount", "(I)I"⟩ ∈ GT := gt_mem 600 (by decide +kernel) rfl
theorem d_X10_lowestOf_0 : decode cX10_lowestOf 0 = .ok (.iload_n 0, 1) := by decide +kernel
theorem d_X10_lowestOf_1 : decode cX10_lowestOf 1 = .ok (.iload_n 0, 1) := by decide +kernel
theorem d_X10_lowestOf_2 : decode cX10_lowestOf 2 = .ok (.ineg, 1) := by decide +kernel
theorem d_X10_lowestOf_3 : decode cX10_lowestOf 3 = .ok (.iand, 1) := by decide +kernel
theorem d_X10_lowestOf_4 : decode cX10_lowestOf 4 = .ok (.iconst 1, 1) := by decide +kernel
theorem d_X10_lowestOf_5 : decode cX10_lowestOf 5 = .ok (.isub, 1) := by decide +kernel
theorem d_X10_lowestOf_6 : decode cX10_lowestOf 6 = .ok (.invokestatic 229, 3) := by decide +kernel
theorem d_X10_lowestOf_9 : decode cX10_lowestOf 9 = .ok (.ireturn, 1) := by decide +kernel
set_option maxRecDepth 100000 in
theorem L_X10_lowestOf {p : Program} {l : Launch} {e : Env} {s : State} {m : MethodId} {args : Array Value} {below : List Frame} {meth : Method} {c : Code} {D : va_G} {ca : Nat → ClassId} {ad sx sy : Nat → Nat} {A : Nat → Prop} {Q : QT} (C0 : CX p s m args meth c cX10_lowestOf 1 yX10_lowestOf.cls D ca ad A) (hE : EX sx sy A s s.heap) (hr : meth.sig.returnType = (some .int)) (hno : ∀ x ∈ c.exceptionTable.toList, False) : R_X10_lowestOf (JW p l e { frames := 11, cells := 0, slots := 6 * 0, locals := 220 } s m args below meth c 1 D ca ad A (vx_MQ below (Qn D ca ad A Q) (Qx D ca ad A Q) args s 0 (6 * 0) A) gz gz true) Q := s_iln C0 (d_X10_lowestOf_0) hgz (s_iln C0 (d_X10_lowestOf_1) hgz (s_neg C0 (d_X10_lowestOf_2) hgz (s_and C0 (d_X10_lowestOf_3) hgz (s_ic C0 (d_X10_lowestOf_4) hgz (s_sub C0 (d_X10_lowestOf_5) hgz (s_callS C0 hE (c_J6_bitCount_0f7a4 l) wg481 wg479 wg480 wg24 ⟨by decide, by decide⟩ (by decide +kernel) ⟨by decide, by decide⟩ ⟨by decide, by decide⟩ (d_X10_lowestOf_6) (fun x hx => (hno x hx).elim) ⟨by decide, by decide⟩ ⟨by decide, by decide⟩ (s_ri C0 hr (d_X10_lowestOf_9) ⟨by decide, by decide⟩))) (okn rfl)))))
theorem c_X10_lowestOf (l : Launch) : Ctr l yX10_lowestOf cX10_lowestOf 1 (some .int) 11 220 0 (fun sx => (nf G_X10_lowestOf)) := ctr_of (by decide) gz gz ⟨rfl, rfl⟩ (fun p e s m args below meth c D ca ad sx sy A Q as M C0 hE hr hno hF => P_X10_lowestOf (L_X10_lowestOf C0 hE hr hno) hF)
theorem wg84 : Cond.fieldLink "WeighedHall$Plan" 46 "WeighedHall$Plan" "things" "I" ∈ GT := gt_mem 204 (by decide +kernel) rfl
theorem d_X6_hasThing_0 : decode cX6_hasThing 0 = .ok (.iload_n 1, 1) := by decide +kernel
theorem d_X6_hasThing_1 : decode cX6_hasThing 1 = .ok (.ifCond .lt 15, 3) := by decide +kernel
theorem d_X6_hasThing_4 : decode cX6_hasThing 4 = .ok (.iload_n 1, 1) := by decide +kernel
theorem d_X6_hasThing_5 : decode cX6_hasThing 5 = .ok (.aload_n 0, 1) := by decide +kernel
theorem d_X6_hasThing_6 : decode cX6_hasThing 6 = .ok (.getfield 46, 3) := by decide +kernel
theorem d_X6_hasThing_9 : decode cX6_hasThing 9 = .ok (.if_icmp .ge 7, 3) := by decide +kernel
theorem d_X6_hasThing_12 : decode cX6_hasThing 12 = .ok (.iconst 1, 1) := by decide +kernel
theorem d_X6_hasThing_13 : decode cX6_hasThing 13 = .ok (.goto 4, 3) := by decide +kernel
theorem d_X6_hasThing_16 : decode cX6_hasThing 16 = .ok (.iconst 0, 1) := by decide +kernel
theorem d_X6_hasThing_17 : decode cX6_hasThing 17 = .ok (.ireturn, 1) := by decide +kernel
set_option maxRecDepth 100000 in
theorem L_X6_hasThing {p : Program} {l : Launch} {e : Env} {s : State} {m : MethodId} {args : Array Value} {below : List Frame} {meth : Method} {c : Code} {D : va_G} {ca : Nat → ClassId} {ad sx sy : Nat → Nat} {A : Nat → Prop} {Q : QT} (C0 : CX p s m args meth c cX6_hasThing 2 yX6_hasThing.cls D ca ad A) (hE : EX sx sy A s s.heap) (hr : meth.sig.returnType = (some .boolean)) (hno : ∀ x ∈ c.exceptionTable.toList, False) : R_X6_hasThing (JW p l e { frames := 10, cells := 0, slots := 6 * 0, locals := 200 } s m args below meth c 2 D ca ad A (vx_MQ below (Qn D ca ad A Q) (Qx D ca ad A Q) args s 0 (6 * 0) A) gz gz true) Q := ⟨s_iln C0 (d_X6_hasThing_0) hgz (s_zlt C0 (d_X6_hasThing_1) (by decide) hgz hgz (fun _ _ _ h => h) (s_iln C0 (d_X6_hasThing_4) hgz (s_aln C0 (d_X6_hasThing_5) hgz (s_gi C0 (j := 3) (c0 := 6) rfl gX6 (by decide) rfl (by decide) wg84 (d_X6_hasThing_6) hgz (s_cge C0 (d_X6_hasThing_9) (by decide) hgz hgz (fun _ _ _ h => h) (s_ic C0 (d_X6_hasThing_12) hgz (s_goto C0 (tgt := 17) (d_X6_hasThing_13) (by decide) hgz (fun _ _ _ h => h)) (okn rfl))))))),
  s_ic C0 (d_X6_hasThing_16) hgz (fun _ _ _ h => h) (okn rfl),
  s_rz C0 hr (d_X6_hasThing_17) ⟨by decide, by decide⟩⟩
theorem c_X6_hasThing (l : Launch) : Ctr l yX6_hasThing cX6_hasThing 2 (some .boolean) 10 200 0 (fun sx => (nf G_X6_hasThing)) := ctr_of (by decide) gz gz ⟨rfl, rfl⟩ (fun p e s m args below meth c D ca ad sx sy A Q as M C0 hE hr hno hF => P_X6_hasThing (L_X6_hasThing C0 hE hr hno) hF)
theorem wg247 : Cond.fieldLink "WeighedHall$Sitting" 41 "WeighedHall$Sitting" "spentAt" "[I" ∈ GT := gt_mem 367 (by decide +kernel) rfl
theorem d_X8_isSpent_0 : decode cX8_isSpent 0 = .ok (.iload_n 1, 1) := by decide +kernel
theorem d_X8_isSpent_1 : decode cX8_isSpent 1 = .ok (.ifCond .lt 23, 3) := by decide +kernel
theorem d_X8_isSpent_4 : decode cX8_isSpent 4 = .ok (.iload_n 1, 1) := by decide +kernel
theorem d_X8_isSpent_5 : decode cX8_isSpent 5 = .ok (.bipush 10, 2) := by decide +kernel
theorem d_X8_isSpent_7 : decode cX8_isSpent 7 = .ok (.if_icmp .ge 17, 3) := by decide +kernel
theorem d_X8_isSpent_10 : decode cX8_isSpent 10 = .ok (.aload_n 0, 1) := by decide +kernel
theorem d_X8_isSpent_11 : decode cX8_isSpent 11 = .ok (.getfield 41, 3) := by decide +kernel
theorem d_X8_isSpent_14 : decode cX8_isSpent 14 = .ok (.iload_n 1, 1) := by decide +kernel
theorem d_X8_isSpent_15 : decode cX8_isSpent 15 = .ok (.iaload, 1) := by decide +kernel
theorem d_X8_isSpent_16 : decode cX8_isSpent 16 = .ok (.iconst (-1), 1) := by decide +kernel
theorem d_X8_isSpent_17 : decode cX8_isSpent 17 = .ok (.if_icmp .eq 7, 3) := by decide +kernel
theorem d_X8_isSpent_20 : decode cX8_isSpent 20 = .ok (.iconst 1, 1) := by decide +kernel
theorem d_X8_isSpent_21 : decode cX8_isSpent 21 = .ok (.goto 4, 3) := by decide +kernel
theorem d_X8_isSpent_24 : decode cX8_isSpent 24 = .ok (.iconst 0, 1) := by decide +kernel
theorem d_X8_isSpent_25 : decode cX8_isSpent 25 = .ok (.ireturn, 1) := by decide +kernel
set_option maxRecDepth 100000 in
theorem L_X8_isSpent {p : Program} {l : Launch} {e : Env} {s : State} {m : MethodId} {args : Array Value} {below : List Frame} {meth : Method} {c : Code} {D : va_G} {ca : Nat → ClassId} {ad sx sy : Nat → Nat} {A : Nat → Prop} {Q : QT} (C0 : CX p s m args meth c cX8_isSpent 2 yX8_isSpent.cls D ca ad A) (hE : EX sx sy A s s.heap) (hr : meth.sig.returnType = (some .boolean)) (hno : ∀ x ∈ c.exceptionTable.toList, False) : R_X8_isSpent (JW p l e { frames := 10, cells := 0, slots := 6 * 0, locals := 200 } s m args below meth c 2 D ca ad A (vx_MQ below (Qn D ca ad A Q) (Qx D ca ad A Q) args s 0 (6 * 0) A) gz gz true) Q := ⟨s_iln C0 (d_X8_isSpent_0) hgz (s_zlt C0 (d_X8_isSpent_1) (by decide) hgz hgz (fun _ _ _ h => h) (s_iln C0 (d_X8_isSpent_4) hgz (s_bi C0 (d_X8_isSpent_5) hgz (s_cge C0 (d_X8_isSpent_7) (by decide) hgz hgz (fun _ _ _ h => h) (s_aln C0 (d_X8_isSpent_10) hgz (s_gr C0 (j := 7) (c0 := 8) rfl gX8 (by decide) rfl rfl wg247 (d_X8_isSpent_11) hgz (s_iln C0 (d_X8_isSpent_14) hgz (s_ia C0 (d_X8_isSpent_15) hgz (s_ic C0 (d_X8_isSpent_16) hgz (s_ceq C0 (d_X8_isSpent_17) (by decide) hgz hgz (fun _ _ _ h => h) (s_ic C0 (d_X8_isSpent_20) hgz (s_goto C0 (tgt := 25) (d_X8_isSpent_21) (by decide) hgz (fun _ _ _ h => h)) (okn rfl))) (okn rfl))))))) (okn rfl) rfl))),
  s_ic C0 (d_X8_isSpent_24) hgz (fun _ _ _ h => h) (okn rfl),
  s_rz C0 hr (d_X8_isSpent_25) ⟨by decide, by decide⟩⟩
theorem c_X8_isSpent (l : Launch) : Ctr l yX8_isSpent cX8_isSpent 2 (some .boolean) 10 200 0 (fun sx => (nf G_X8_isSpent)) := ctr_of (by decide) gz gz ⟨rfl, rfl⟩ (fun p e s m args below meth c D ca ad sx sy A Q as M C0 hE hr hno hF => P_X8_isSpent (L_X8_isSpent C0 hE hr hno) hF)
theorem wg243 : Cond.fieldLink "WeighedHall$Sitting" 32 "WeighedHall$Sitting" "lentBy" "[I" ∈ GT := gt_mem 363 (by decide +kernel) rfl
theorem wn178 : Cond.fieldLinkNest "WeighedHall$Sitting" 106 "WeighedHall$Loans" "taker" "[I" "WeighedHall" ∈ NT := nt_mem 178 (by decide +kernel) rfl
theorem wg238 : Cond.fieldLink "WeighedHall$Sitting" 21 "WeighedHall$Sitting" "loans" "LWeighedHall$Loans;" ∈ GT := gt_mem 358 (by decide +kernel) rfl
theorem wg239 : Cond.fieldLink "WeighedHall$Sitting" 25 "WeighedHall$Sitting" "holder" "[I" ∈ GT := gt_mem 359 (by decide +kernel) rfl
theorem wg883 : Cond.code ⟨"WeighedHall$Sitting", "isSpent", "(I)Z"⟩ prog_10_method_12_code 2 (Option.some .boolean) ∈ GT := gt_mem 1003 (by decide +kernel) rfl
theorem wg7 : Cond.initialized "WeighedHall$Sitting" ∈ GT := gt_mem 127 (by decide +kernel) rfl
theorem wg880 : Cond.methodLink "WeighedHall$Sitting" 112 ⟨"WeighedHall$Sitting", "isSpent", "(I)Z"⟩ ∈ GT := gt_mem 1000 (by decide +kernel) rfl
theorem wg882 : Cond.instanceMethod ⟨"WeighedHall$Sitting", "isSpent", "(I)Z"⟩ ∈ GT := gt_mem 1002 (by decide +kernel) rfl
theorem ws46 : Cond.selects "WeighedHall$Sitting" ⟨"WeighedHall$Sitting", "isSpent", "(I)Z"⟩ ⟨"WeighedHall$Sitting", "isSpent", "(I)Z"⟩ ∈ GT := gt_mem 46 (by decide +kernel) rfl
theorem wn93 : Cond.fieldLinkNest "WeighedHall$Sitting" 58 "WeighedHall$Plan" "owner" "[I" "WeighedHall" ∈ NT := nt_mem 93 (by decide +kernel) rfl
theorem wg236 : Cond.fieldLink "WeighedHall$Sitting" 12 "WeighedHall$Sitting" "plan" "LWeighedHall$Plan;" ∈ GT := gt_mem 356 (by decide +kernel) rfl
theorem wg791 : Cond.code ⟨"WeighedHall$Plan", "hasThing", "(I)Z"⟩ prog_8_method_14_code 2 (Option.some .boolean) ∈ GT := gt_mem 911 (by decide +kernel) rfl
theorem wg3 : Cond.initialized "WeighedHall$Plan" ∈ GT := gt_mem 123 (by decide +kernel) rfl
theorem wn888 : Cond.methodLinkNest "WeighedHall$Sitting" 102 ⟨"WeighedHall$Plan", "hasThing", "(I)Z"⟩ "WeighedHall" ∈ NT := nt_mem 888 (by decide +kernel) rfl
theorem wg790 : Cond.instanceMethod ⟨"WeighedHall$Plan", "hasThing", "(I)Z"⟩ ∈ GT := gt_mem 910 (by decide +kernel) rfl
theorem ws35 : Cond.selects "WeighedHall$Plan" ⟨"WeighedHall$Plan", "hasThing", "(I)Z"⟩ ⟨"WeighedHall$Plan", "hasThing", "(I)Z"⟩ ∈ GT := gt_mem 35 (by decide +kernel) rfl
theorem wn180 : Cond.fieldLinkNest "WeighedHall$Sitting" 109 "WeighedHall$Loans" "from" "[I" "WeighedHall" ∈ NT := nt_mem 180 (by decide +kernel) rfl
theorem wn176 : Cond.fieldLinkNest "WeighedHall$Sitting" 96 "WeighedHall$Loans" "thing" "[I" "WeighedHall" ∈ NT := nt_mem 176 (by decide +kernel) rfl
theorem wn174 : Cond.fieldLinkNest "WeighedHall$Sitting" 93 "WeighedHall$Loans" "number" "I" "WeighedHall" ∈ NT := nt_mem 174 (by decide +kernel) rfl
theorem d_X8_giveAway_0 : decode cX8_giveAway 0 = .ok (.iconst 0, 1) := by decide +kernel
theorem d_X8_giveAway_1 : decode cX8_giveAway 1 = .ok (.istore_n 2, 1) := by decide +kernel
theorem d_X8_giveAway_2 : decode cX8_giveAway 2 = .ok (.iload_n 2, 1) := by decide +kernel
theorem d_X8_giveAway_3 : decode cX8_giveAway 3 = .ok (.aload_n 0, 1) := by decide +kernel
theorem d_X8_giveAway_4 : decode cX8_giveAway 4 = .ok (.getfield 21, 3) := by decide +kernel
theorem d_X8_giveAway_7 : decode cX8_giveAway 7 = .ok (.getfield 93, 3) := by decide +kernel
theorem d_X8_giveAway_10 : decode cX8_giveAway 10 = .ok (.if_icmp .ge 99, 3) := by decide +kernel
theorem d_X8_giveAway_13 : decode cX8_giveAway 13 = .ok (.aload_n 0, 1) := by decide +kernel
theorem d_X8_giveAway_14 : decode cX8_giveAway 14 = .ok (.getfield 21, 3) := by decide +kernel
theorem d_X8_giveAway_17 : decode cX8_giveAway 17 = .ok (.getfield 96, 3) := by decide +kernel
theorem d_X8_giveAway_20 : decode cX8_giveAway 20 = .ok (.iload_n 2, 1) := by decide +kernel
theorem d_X8_giveAway_21 : decode cX8_giveAway 21 = .ok (.iaload, 1) := by decide +kernel
theorem d_X8_giveAway_22 : decode cX8_giveAway 22 = .ok (.istore_n 3, 1) := by decide +kernel
theorem d_X8_giveAway_23 : decode cX8_giveAway 23 = .ok (.aload_n 0, 1) := by decide +kernel
theorem d_X8_giveAway_24 : decode cX8_giveAway 24 = .ok (.getfield 21, 3) := by decide +kernel
theorem d_X8_giveAway_27 : decode cX8_giveAway 27 = .ok (.getfield 109, 3) := by decide +kernel
theorem d_X8_giveAway_30 : decode cX8_giveAway 30 = .ok (.iload_n 2, 1) := by decide +kernel
theorem d_X8_giveAway_31 : decode cX8_giveAway 31 = .ok (.iaload, 1) := by decide +kernel
theorem d_X8_giveAway_32 : decode cX8_giveAway 32 = .ok (.iload_n 1, 1) := by decide +kernel
theorem d_X8_giveAway_33 : decode cX8_giveAway 33 = .ok (.if_icmp .ne 70, 3) := by decide +kernel
theorem d_X8_giveAway_36 : decode cX8_giveAway 36 = .ok (.aload_n 0, 1) := by decide +kernel
theorem d_X8_giveAway_37 : decode cX8_giveAway 37 = .ok (.getfield 12, 3) := by decide +kernel
theorem d_X8_giveAway_40 : decode cX8_giveAway 40 = .ok (.iload_n 3, 1) := by decide +kernel
theorem d_X8_giveAway_41 : decode cX8_giveAway 41 = .ok (.invokevirtual 102, 3) := by decide +kernel
theorem d_X8_giveAway_44 : decode cX8_giveAway 44 = .ok (.ifCond .eq 59, 3) := by decide +kernel
theorem d_X8_giveAway_47 : decode cX8_giveAway 47 = .ok (.aload_n 0, 1) := by decide +kernel
theorem d_X8_giveAway_48 : decode cX8_giveAway 48 = .ok (.getfield 25, 3) := by decide +kernel
theorem d_X8_giveAway_51 : decode cX8_giveAway 51 = .ok (.iload_n 3, 1) := by decide +kernel
theorem d_X8_giveAway_52 : decode cX8_giveAway 52 = .ok (.iaload, 1) := by decide +kernel
theorem d_X8_giveAway_53 : decode cX8_giveAway 53 = .ok (.aload_n 0, 1) := by decide +kernel
theorem d_X8_giveAway_54 : decode cX8_giveAway 54 = .ok (.getfield 12, 3) := by decide +kernel
theorem d_X8_giveAway_57 : decode cX8_giveAway 57 = .ok (.getfield 58, 3) := by decide +kernel
theorem d_X8_giveAway_60 : decode cX8_giveAway 60 = .ok (.iload_n 3, 1) := by decide +kernel
theorem d_X8_giveAway_61 : decode cX8_giveAway 61 = .ok (.iaload, 1) := by decide +kernel
theorem d_X8_giveAway_62 : decode cX8_giveAway 62 = .ok (.if_icmp .ne 41, 3) := by decide +kernel
theorem d_X8_giveAway_65 : decode cX8_giveAway 65 = .ok (.aload_n 0, 1) := by decide +kernel
theorem d_X8_giveAway_66 : decode cX8_giveAway 66 = .ok (.aload_n 0, 1) := by decide +kernel
theorem d_X8_giveAway_67 : decode cX8_giveAway 67 = .ok (.getfield 21, 3) := by decide +kernel
theorem d_X8_giveAway_70 : decode cX8_giveAway 70 = .ok (.getfield 106, 3) := by decide +kernel
theorem d_X8_giveAway_73 : decode cX8_giveAway 73 = .ok (.iload_n 2, 1) := by decide +kernel
theorem d_X8_giveAway_74 : decode cX8_giveAway 74 = .ok (.iaload, 1) := by decide +kernel
theorem d_X8_giveAway_75 : decode cX8_giveAway 75 = .ok (.invokevirtual 112, 3) := by decide +kernel
theorem d_X8_giveAway_78 : decode cX8_giveAway 78 = .ok (.ifCond .ne 25, 3) := by decide +kernel
theorem d_X8_giveAway_81 : decode cX8_giveAway 81 = .ok (.aload_n 0, 1) := by decide +kernel
theorem d_X8_giveAway_82 : decode cX8_giveAway 82 = .ok (.getfield 25, 3) := by decide +kernel
theorem d_X8_giveAway_85 : decode cX8_giveAway 85 = .ok (.iload_n 3, 1) := by decide +kernel
theorem d_X8_giveAway_86 : decode cX8_giveAway 86 = .ok (.aload_n 0, 1) := by decide +kernel
theorem d_X8_giveAway_87 : decode cX8_giveAway 87 = .ok (.getfield 21, 3) := by decide +kernel
theorem d_X8_giveAway_90 : decode cX8_giveAway 90 = .ok (.getfield 106, 3) := by decide +kernel
theorem d_X8_giveAway_93 : decode cX8_giveAway 93 = .ok (.iload_n 2, 1) := by decide +kernel
theorem d_X8_giveAway_94 : decode cX8_giveAway 94 = .ok (.iaload, 1) := by decide +kernel
theorem d_X8_giveAway_95 : decode cX8_giveAway 95 = .ok (.iastore, 1) := by decide +kernel
theorem d_X8_giveAway_96 : decode cX8_giveAway 96 = .ok (.aload_n 0, 1) := by decide +kernel
theorem d_X8_giveAway_97 : decode cX8_giveAway 97 = .ok (.getfield 32, 3) := by decide +kernel
theorem d_X8_giveAway_100 : decode cX8_giveAway 100 = .ok (.iload_n 3, 1) := by decide +kernel
theorem d_X8_giveAway_101 : decode cX8_giveAway 101 = .ok (.iload_n 2, 1) := by decide +kernel
theorem d_X8_giveAway_102 : decode cX8_giveAway 102 = .ok (.iastore, 1) := by decide +kernel
theorem d_X8_giveAway_103 : decode cX8_giveAway 103 = .ok (.iinc 2 1, 3) := by decide +kernel
theorem d_X8_giveAway_106 : decode cX8_giveAway 106 = .ok (.goto (-104), 3) := by decide +kernel
theorem d_X8_giveAway_109 : decode cX8_giveAway 109 = .ok (.return_, 1) := by decide +kernel
set_option maxRecDepth 100000 in
theorem L_X8_giveAway {p : Program} {l : Launch} {e : Env} {s : State} {m : MethodId} {args : Array Value} {below : List Frame} {meth : Method} {c : Code} {D : va_G} {ca : Nat → ClassId} {ad sx sy : Nat → Nat} {A : Nat → Prop} {Q : QT} (C0 : CX p s m args meth c cX8_giveAway 4 yX8_giveAway.cls D ca ad A) (hE : EX sx sy A s s.heap) (hr : meth.sig.returnType = none) (hno : ∀ x ∈ c.exceptionTable.toList, False) : R_X8_giveAway (JW p l e { frames := 11, cells := 0, slots := 6 * 0, locals := 221 } s m args below meth c 4 D ca ad A (vx_MQ below (Qn D ca ad A Q) (Qx D ca ad A Q) args s 0 (6 * 0) A) gz gz true) Q := ⟨s_ic C0 (d_X8_giveAway_0) hgz (s_isn C0 (d_X8_giveAway_1) hgz (fun _ _ _ h => h)) (okn rfl),
  s_iln C0 (d_X8_giveAway_2) hgz (s_aln C0 (d_X8_giveAway_3) hgz (s_gm C0 (j := 1) (c0 := 8) rfl gX8 (by decide) rfl rfl wg238 (d_X8_giveAway_4) hgz (s_giN C0 (j := 0) (c0 := 5) rfl gX5 (by decide) rfl (by decide) wn174 (d_X8_giveAway_7) hgz (s_cge C0 (d_X8_giveAway_10) (by decide) hgz hgz (fun _ _ _ h => h) (s_aln C0 (d_X8_giveAway_13) hgz (s_gm C0 (j := 1) (c0 := 8) rfl gX8 (by decide) rfl rfl wg238 (d_X8_giveAway_14) hgz (s_grN C0 (j := 1) (c0 := 5) rfl gX5 (by decide) rfl rfl wn176 (d_X8_giveAway_17) hgz (s_iln C0 (d_X8_giveAway_20) hgz (s_ia C0 (d_X8_giveAway_21) hgz (s_isn C0 (d_X8_giveAway_22) hgz (s_aln C0 (d_X8_giveAway_23) hgz (s_gm C0 (j := 1) (c0 := 8) rfl gX8 (by decide) rfl rfl wg238 (d_X8_giveAway_24) hgz (s_grN C0 (j := 3) (c0 := 5) rfl gX5 (by decide) rfl rfl wn180 (d_X8_giveAway_27) hgz (s_iln C0 (d_X8_giveAway_30) hgz (s_ia C0 (d_X8_giveAway_31) hgz (s_iln C0 (d_X8_giveAway_32) hgz (s_cne C0 (d_X8_giveAway_33) (by decide) hgz hgz (fun _ _ _ h => h) (s_aln C0 (d_X8_giveAway_36) hgz (s_gm C0 (j := 0) (c0 := 8) rfl gX8 (by decide) rfl rfl wg236 (d_X8_giveAway_37) hgz (s_iln C0 (d_X8_giveAway_40) hgz (s_callVN C0 hE (c_X6_hasThing l) wg791 wn888 wg790 ws35 wg3 ⟨by decide, by decide⟩ (by decide +kernel) (c0 := 6) rfl ⟨by decide, by decide⟩ ⟨by decide, by decide⟩ (d_X8_giveAway_41) (fun x hx => (hno x hx).elim) ⟨by decide, by decide⟩ ⟨by decide, by decide⟩ (s_zeq C0 (d_X8_giveAway_44) (by decide) hgz hgz (fun _ _ _ h => h) (s_aln C0 (d_X8_giveAway_47) hgz (s_gr C0 (j := 2) (c0 := 8) rfl gX8 (by decide) rfl rfl wg239 (d_X8_giveAway_48) hgz (s_iln C0 (d_X8_giveAway_51) hgz (s_ia C0 (d_X8_giveAway_52) hgz (s_aln C0 (d_X8_giveAway_53) hgz (s_gm C0 (j := 0) (c0 := 8) rfl gX8 (by decide) rfl rfl wg236 (d_X8_giveAway_54) hgz (s_grN C0 (j := 4) (c0 := 6) rfl gX6 (by decide) rfl rfl wn93 (d_X8_giveAway_57) hgz (s_iln C0 (d_X8_giveAway_60) hgz (s_ia C0 (d_X8_giveAway_61) hgz (s_cne C0 (d_X8_giveAway_62) (by decide) hgz hgz (fun _ _ _ h => h) (s_aln C0 (d_X8_giveAway_65) hgz (s_aln C0 (d_X8_giveAway_66) hgz (s_gm C0 (j := 1) (c0 := 8) rfl gX8 (by decide) rfl rfl wg238 (d_X8_giveAway_67) hgz (s_grN C0 (j := 2) (c0 := 5) rfl gX5 (by decide) rfl rfl wn178 (d_X8_giveAway_70) hgz (s_iln C0 (d_X8_giveAway_73) hgz (s_ia C0 (d_X8_giveAway_74) hgz (s_callV C0 hE (c_X8_isSpent l) wg883 wg880 wg882 ws46 wg7 ⟨by decide, by decide⟩ (by decide +kernel) (c0 := 8) rfl ⟨by decide, by decide⟩ ⟨by decide, by decide⟩ (d_X8_giveAway_75) (fun x hx => (hno x hx).elim) ⟨by decide, by decide⟩ ⟨by decide, by decide⟩ (s_zne C0 (d_X8_giveAway_78) (by decide) hgz hgz (fun _ _ _ h => h) (s_aln C0 (d_X8_giveAway_81) hgz (s_gr C0 (j := 2) (c0 := 8) rfl gX8 (by decide) rfl rfl wg239 (d_X8_giveAway_82) hgz (s_iln C0 (d_X8_giveAway_85) hgz (s_aln C0 (d_X8_giveAway_86) hgz (s_gm C0 (j := 1) (c0 := 8) rfl gX8 (by decide) rfl rfl wg238 (d_X8_giveAway_87) hgz (s_grN C0 (j := 2) (c0 := 5) rfl gX5 (by decide) rfl rfl wn178 (d_X8_giveAway_90) hgz (s_iln C0 (d_X8_giveAway_93) hgz (s_ia C0 (d_X8_giveAway_94) hgz (s_iax C0 (d_X8_giveAway_95) hgz (s_aln C0 (d_X8_giveAway_96) hgz (s_gr C0 (j := 4) (c0 := 8) rfl gX8 (by decide) rfl rfl wg243 (d_X8_giveAway_97) hgz (s_iln C0 (d_X8_giveAway_100) hgz (s_iln C0 (d_X8_giveAway_101) hgz (s_iax C0 (d_X8_giveAway_102) hgz (fun _ _ _ h => h))))))))))))))))))))))))))))))))))))))))))))))))))))))),
  s_inc C0 (d_X8_giveAway_103) hgz (s_goto C0 (tgt := 2) (d_X8_giveAway_106) (by decide) hgz (fun _ _ _ h => h)),
  s_rv C0 hr (d_X8_giveAway_109) ⟨by decide, by decide⟩⟩
theorem c_X8_giveAway (l : Launch) : Ctr l yX8_giveAway cX8_giveAway 4 none 11 221 0 (fun sx => (nf G_X8_giveAway)) := ctr_of (by decide) gz gz ⟨rfl, rfl⟩ (fun p e s m args below meth c D ca ad sx sy A Q as M C0 hE hr hno hF => P_X8_giveAway (L_X8_giveAway C0 hE hr hno) hF)
theorem wg244 : Cond.fieldLink "WeighedHall$Sitting" 35 "WeighedHall$Sitting" "load" "[I" ∈ GT := gt_mem 364 (by decide +kernel) rfl
theorem wn85 : Cond.fieldLinkNest "WeighedHall$Sitting" 51 "WeighedHall$Plan" "things" "I" "WeighedHall" ∈ NT := nt_mem 85 (by decide +kernel) rfl
theorem d_X8_dropAllOf_0 : decode cX8_dropAllOf 0 = .ok (.aload_n 0, 1) := by decide +kernel
theorem d_X8_dropAllOf_1 : decode cX8_dropAllOf 1 = .ok (.getfield 35, 3) := by decide +kernel
theorem d_X8_dropAllOf_4 : decode cX8_dropAllOf 4 = .ok (.iload_n 1, 1) := by decide +kernel
theorem d_X8_dropAllOf_5 : decode cX8_dropAllOf 5 = .ok (.iconst 0, 1) := by decide +kernel
theorem d_X8_dropAllOf_6 : decode cX8_dropAllOf 6 = .ok (.iastore, 1) := by decide +kernel
theorem d_X8_dropAllOf_7 : decode cX8_dropAllOf 7 = .ok (.iconst 0, 1) := by decide +kernel
theorem d_X8_dropAllOf_8 : decode cX8_dropAllOf 8 = .ok (.istore_n 2, 1) := by decide +kernel
theorem d_X8_dropAllOf_9 : decode cX8_dropAllOf 9 = .ok (.iload_n 2, 1) := by decide +kernel
theorem d_X8_dropAllOf_10 : decode cX8_dropAllOf 10 = .ok (.aload_n 0, 1) := by decide +kernel
theorem d_X8_dropAllOf_11 : decode cX8_dropAllOf 11 = .ok (.getfield 12, 3) := by decide +kernel
theorem d_X8_dropAllOf_14 : decode cX8_dropAllOf 14 = .ok (.getfield 51, 3) := by decide +kernel
theorem d_X8_dropAllOf_17 : decode cX8_dropAllOf 17 = .ok (.if_icmp .ge 26, 3) := by decide +kernel
theorem d_X8_dropAllOf_20 : decode cX8_dropAllOf 20 = .ok (.aload_n 0, 1) := by decide +kernel
theorem d_X8_dropAllOf_21 : decode cX8_dropAllOf 21 = .ok (.getfield 25, 3) := by decide +kernel
theorem d_X8_dropAllOf_24 : decode cX8_dropAllOf 24 = .ok (.iload_n 2, 1) := by decide +kernel
theorem d_X8_dropAllOf_25 : decode cX8_dropAllOf 25 = .ok (.iaload, 1) := by decide +kernel
theorem d_X8_dropAllOf_26 : decode cX8_dropAllOf 26 = .ok (.iload_n 1, 1) := by decide +kernel
theorem d_X8_dropAllOf_27 : decode cX8_dropAllOf 27 = .ok (.if_icmp .ne 10, 3) := by decide +kernel
theorem d_X8_dropAllOf_30 : decode cX8_dropAllOf 30 = .ok (.aload_n 0, 1) := by decide +kernel
theorem d_X8_dropAllOf_31 : decode cX8_dropAllOf 31 = .ok (.getfield 25, 3) := by decide +kernel
theorem d_X8_dropAllOf_34 : decode cX8_dropAllOf 34 = .ok (.iload_n 2, 1) := by decide +kernel
theorem d_X8_dropAllOf_35 : decode cX8_dropAllOf 35 = .ok (.iconst (-1), 1) := by decide +kernel
theorem d_X8_dropAllOf_36 : decode cX8_dropAllOf 36 = .ok (.iastore, 1) := by decide +kernel
theorem d_X8_dropAllOf_37 : decode cX8_dropAllOf 37 = .ok (.iinc 2 1, 3) := by decide +kernel
theorem d_X8_dropAllOf_40 : decode cX8_dropAllOf 40 = .ok (.goto (-31), 3) := by decide +kernel
theorem d_X8_dropAllOf_43 : decode cX8_dropAllOf 43 = .ok (.return_, 1) := by decide +kernel
set_option maxRecDepth 100000 in
theorem L_X8_dropAllOf {p : Program} {l : Launch} {e : Env} {s : State} {m : MethodId} {args : Array Value} {below : List Frame} {meth : Method} {c : Code} {D : va_G} {ca : Nat → ClassId} {ad sx sy : Nat → Nat} {A : Nat → Prop} {Q : QT} (C0 : CX p s m args meth c cX8_dropAllOf 3 yX8_dropAllOf.cls D ca ad A) (hE : EX sx sy A s s.heap) (hr : meth.sig.returnType = none) (hno : ∀ x ∈ c.exceptionTable.toList, False) : R_X8_dropAllOf (JW p l e { frames := 10, cells := 0, slots := 6 * 0, locals := 200 } s m args below meth c 3 D ca ad A (vx_MQ below (Qn D ca ad A Q) (Qx D ca ad A Q) args s 0 (6 * 0) A) gz gz true) Q := ⟨s_aln C0 (d_X8_dropAllOf_0) hgz (s_gr C0 (j := 5) (c0 := 8) rfl gX8 (by decide) rfl rfl wg244 (d_X8_dropAllOf_1) hgz (s_iln C0 (d_X8_dropAllOf_4) hgz (s_ic C0 (d_X8_dropAllOf_5) hgz (s_iax C0 (d_X8_dropAllOf_6) hgz (s_ic C0 (d_X8_dropAllOf_7) hgz (s_isn C0 (d_X8_dropAllOf_8) hgz (fun _ _ _ h => h)) (okn rfl))) (okn rfl)))),
  s_iln C0 (d_X8_dropAllOf_9) hgz (s_aln C0 (d_X8_dropAllOf_10) hgz (s_gm C0 (j := 0) (c0 := 8) rfl gX8 (by decide) rfl rfl wg236 (d_X8_dropAllOf_11) hgz (s_giN C0 (j := 3) (c0 := 6) rfl gX6 (by decide) rfl (by decide) wn85 (d_X8_dropAllOf_14) hgz (s_cge C0 (d_X8_dropAllOf_17) (by decide) hgz hgz (fun _ _ _ h => h) (s_aln C0 (d_X8_dropAllOf_20) hgz (s_gr C0 (j := 2) (c0 := 8) rfl gX8 (by decide) rfl rfl wg239 (d_X8_dropAllOf_21) hgz (s_iln C0 (d_X8_dropAllOf_24) hgz (s_ia C0 (d_X8_dropAllOf_25) hgz (s_iln C0 (d_X8_dropAllOf_26) hgz (s_cne C0 (d_X8_dropAllOf_27) (by decide) hgz hgz (fun _ _ _ h => h) (s_aln C0 (d_X8_dropAllOf_30) hgz (s_gr C0 (j := 2) (c0 := 8) rfl gX8 (by decide) rfl rfl wg239 (d_X8_dropAllOf_31) hgz (s_iln C0 (d_X8_dropAllOf_34) hgz (s_ic C0 (d_X8_dropAllOf_35) hgz (s_iax C0 (d_X8_dropAllOf_36) hgz (fun _ _ _ h => h)) (okn rfl))))))))))))))),
  s_inc C0 (d_X8_dropAllOf_37) hgz (s_goto C0 (tgt := 9) (d_X8_dropAllOf_40) (by decide) hgz (fun _ _ _ h => h)),
  s_rv C0 hr (d_X8_dropAllOf_43) ⟨by decide, by decide⟩⟩
theorem c_X8_dropAllOf (l : Launch) : Ctr l yX8_dropAllOf cX8_dropAllOf 3 none 10 200 0 (fun sx => (nf G_X8_dropAllOf)) := ctr_of (by decide) gz gz ⟨rfl, rfl⟩ (fun p e s m args below meth c D ca ad sx sy A Q as M C0 hE hr hno hF => P_X8_dropAllOf (L_X8_dropAllOf C0 hE hr hno) hF)
theorem wg905 : Cond.code ⟨"WeighedHall$Sitting", "dropAllOf", "(I)V"⟩ prog_10_method_10_code 3 (Option.none : Option FieldType) ∈ GT := gt_mem 1025 (by decide +kernel) rfl
theorem wg902 : Cond.methodLink "WeighedHall$Sitting" 121 ⟨"WeighedHall$Sitting", "dropAllOf", "(I)V"⟩ ∈ GT := gt_mem 1022 (by decide +kernel) rfl
theorem wg904 : Cond.instanceMethod ⟨"WeighedHall$Sitting", "dropAllOf", "(I)V"⟩ ∈ GT := gt_mem 1024 (by decide +kernel) rfl
theorem ws51 : Cond.selects "WeighedHall$Sitting" ⟨"WeighedHall$Sitting", "dropAllOf", "(I)V"⟩ ⟨"WeighedHall$Sitting", "dropAllOf", "(I)V"⟩ ∈ GT := gt_mem 51 (by decide +kernel) rfl
theorem wg245 : Cond.fieldLink "WeighedHall$Sitting" 38 "WeighedHall$Sitting" "strength" "[I" ∈ GT := gt_mem 365 (by decide +kernel) rfl
theorem wn73 : Cond.fieldLinkNest "WeighedHall$Sitting" 61 "WeighedHall$Plan" "persons" "I" "WeighedHall" ∈ NT := nt_mem 73 (by decide +kernel) rfl
theorem d_X8_tire_0 : decode cX8_tire 0 = .ok (.iconst 0, 1) := by decide +kernel
theorem d_X8_tire_1 : decode cX8_tire 1 = .ok (.istore_n 2, 1) := by decide +kernel
theorem d_X8_tire_2 : decode cX8_tire 2 = .ok (.iload_n 2, 1) := by decide +kernel
theorem d_X8_tire_3 : decode cX8_tire 3 = .ok (.aload_n 0, 1) := by decide +kernel
theorem d_X8_tire_4 : decode cX8_tire 4 = .ok (.getfield 12, 3) := by decide +kernel
theorem d_X8_tire_7 : decode cX8_tire 7 = .ok (.getfield 61, 3) := by decide +kernel
theorem d_X8_tire_10 : decode cX8_tire 10 = .ok (.if_icmp .ge 55, 3) := by decide +kernel
theorem d_X8_tire_13 : decode cX8_tire 13 = .ok (.aload_n 0, 1) := by decide +kernel
theorem d_X8_tire_14 : decode cX8_tire 14 = .ok (.getfield 38, 3) := by decide +kernel
theorem d_X8_tire_17 : decode cX8_tire 17 = .ok (.iload_n 2, 1) := by decide +kernel
theorem d_X8_tire_18 : decode cX8_tire 18 = .ok (.dup2, 1) := by decide +kernel
theorem d_X8_tire_19 : decode cX8_tire 19 = .ok (.iaload, 1) := by decide +kernel
theorem d_X8_tire_20 : decode cX8_tire 20 = .ok (.aload_n 0, 1) := by decide +kernel
theorem d_X8_tire_21 : decode cX8_tire 21 = .ok (.getfield 35, 3) := by decide +kernel
theorem d_X8_tire_24 : decode cX8_tire 24 = .ok (.iload_n 2, 1) := by decide +kernel
theorem d_X8_tire_25 : decode cX8_tire 25 = .ok (.iaload, 1) := by decide +kernel
theorem d_X8_tire_26 : decode cX8_tire 26 = .ok (.isub, 1) := by decide +kernel
theorem d_X8_tire_27 : decode cX8_tire 27 = .ok (.iastore, 1) := by decide +kernel
theorem d_X8_tire_28 : decode cX8_tire 28 = .ok (.aload_n 0, 1) := by decide +kernel
theorem d_X8_tire_29 : decode cX8_tire 29 = .ok (.getfield 38, 3) := by decide +kernel
theorem d_X8_tire_32 : decode cX8_tire 32 = .ok (.iload_n 2, 1) := by decide +kernel
theorem d_X8_tire_33 : decode cX8_tire 33 = .ok (.iaload, 1) := by decide +kernel
theorem d_X8_tire_34 : decode cX8_tire 34 = .ok (.ifCond .ge 25, 3) := by decide +kernel
theorem d_X8_tire_37 : decode cX8_tire 37 = .ok (.aload_n 0, 1) := by decide +kernel
theorem d_X8_tire_38 : decode cX8_tire 38 = .ok (.getfield 41, 3) := by decide +kernel
theorem d_X8_tire_41 : decode cX8_tire 41 = .ok (.iload_n 2, 1) := by decide +kernel
theorem d_X8_tire_42 : decode cX8_tire 42 = .ok (.iaload, 1) := by decide +kernel
theorem d_X8_tire_43 : decode cX8_tire 43 = .ok (.iconst (-1), 1) := by decide +kernel
theorem d_X8_tire_44 : decode cX8_tire 44 = .ok (.if_icmp .ne 15, 3) := by decide +kernel
theorem d_X8_tire_47 : decode cX8_tire 47 = .ok (.aload_n 0, 1) := by decide +kernel
theorem d_X8_tire_48 : decode cX8_tire 48 = .ok (.getfield 41, 3) := by decide +kernel
theorem d_X8_tire_51 : decode cX8_tire 51 = .ok (.iload_n 2, 1) := by decide +kernel
theorem d_X8_tire_52 : decode cX8_tire 52 = .ok (.iload_n 1, 1) := by decide +kernel
theorem d_X8_tire_53 : decode cX8_tire 53 = .ok (.iastore, 1) := by decide +kernel
theorem d_X8_tire_54 : decode cX8_tire 54 = .ok (.aload_n 0, 1) := by decide +kernel
theorem d_X8_tire_55 : decode cX8_tire 55 = .ok (.iload_n 2, 1) := by decide +kernel
theorem d_X8_tire_56 : decode cX8_tire 56 = .ok (.invokevirtual 121, 3) := by decide +kernel
theorem d_X8_tire_59 : decode cX8_tire 59 = .ok (.iinc 2 1, 3) := by decide +kernel
theorem d_X8_tire_62 : decode cX8_tire 62 = .ok (.goto (-60), 3) := by decide +kernel
theorem d_X8_tire_65 : decode cX8_tire 65 = .ok (.return_, 1) := by decide +kernel
set_option maxRecDepth 100000 in
theorem L_X8_tire {p : Program} {l : Launch} {e : Env} {s : State} {m : MethodId} {args : Array Value} {below : List Frame} {meth : Method} {c : Code} {D : va_G} {ca : Nat → ClassId} {ad sx sy : Nat → Nat} {A : Nat → Prop} {Q : QT} (C0 : CX p s m args meth c cX8_tire 3 yX8_tire.cls D ca ad A) (hE : EX sx sy A s s.heap) (hr : meth.sig.returnType = none) (hno : ∀ x ∈ c.exceptionTable.toList, False) : R_X8_tire (JW p l e { frames := 11, cells := 0, slots := 6 * 0, locals := 222 } s m args below meth c 3 D ca ad A (vx_MQ below (Qn D ca ad A Q) (Qx D ca ad A Q) args s 0 (6 * 0) A) gz gz true) Q := ⟨s_ic C0 (d_X8_tire_0) hgz (s_isn C0 (d_X8_tire_1) hgz (fun _ _ _ h => h)) (okn rfl),
  s_iln C0 (d_X8_tire_2) hgz (s_aln C0 (d_X8_tire_3) hgz (s_gm C0 (j := 0) (c0 := 8) rfl gX8 (by decide) rfl rfl wg236 (d_X8_tire_4) hgz (s_giN C0 (j := 0) (c0 := 6) rfl gX6 (by decide) rfl (by decide) wn73 (d_X8_tire_7) hgz (s_cge C0 (d_X8_tire_10) (by decide) hgz hgz (fun _ _ _ h => h) (s_aln C0 (d_X8_tire_13) hgz (s_gr C0 (j := 6) (c0 := 8) rfl gX8 (by decide) rfl rfl wg245 (d_X8_tire_14) hgz (s_iln C0 (d_X8_tire_17) hgz (s_dup2 C0 (d_X8_tire_18) hgz (s_ia C0 (d_X8_tire_19) hgz (s_aln C0 (d_X8_tire_20) hgz (s_gr C0 (j := 5) (c0 := 8) rfl gX8 (by decide) rfl rfl wg244 (d_X8_tire_21) hgz (s_iln C0 (d_X8_tire_24) hgz (s_ia C0 (d_X8_tire_25) hgz (s_sub C0 (d_X8_tire_26) hgz (s_iax C0 (d_X8_tire_27) hgz (s_aln C0 (d_X8_tire_28) hgz (s_gr C0 (j := 6) (c0 := 8) rfl gX8 (by decide) rfl rfl wg245 (d_X8_tire_29) hgz (s_iln C0 (d_X8_tire_32) hgz (s_ia C0 (d_X8_tire_33) hgz (s_zge C0 (d_X8_tire_34) (by decide) hgz hgz (fun _ _ _ h => h) (s_aln C0 (d_X8_tire_37) hgz (s_gr C0 (j := 7) (c0 := 8) rfl gX8 (by decide) rfl rfl wg247 (d_X8_tire_38) hgz (s_iln C0 (d_X8_tire_41) hgz (s_ia C0 (d_X8_tire_42) hgz (s_ic C0 (d_X8_tire_43) hgz (s_cne C0 (d_X8_tire_44) (by decide) hgz hgz (fun _ _ _ h => h) (s_aln C0 (d_X8_tire_47) hgz (s_gr C0 (j := 7) (c0 := 8) rfl gX8 (by decide) rfl rfl wg247 (d_X8_tire_48) hgz (s_iln C0 (d_X8_tire_51) hgz (s_iln C0 (d_X8_tire_52) hgz (s_iax C0 (d_X8_tire_53) hgz (s_aln C0 (d_X8_tire_54) hgz (s_iln C0 (d_X8_tire_55) hgz (s_callV C0 hE (c_X8_dropAllOf l) wg905 wg902 wg904 ws51 wg7 ⟨by decide, by decide⟩ (by decide +kernel) (c0 := 8) rfl ⟨by decide, by decide⟩ ⟨by decide, by decide⟩ (d_X8_tire_56) (fun x hx => (hno x hx).elim) ⟨by decide, by decide⟩ ⟨by decide, by decide⟩ (fun _ _ _ h => h)))))))))) (okn rfl)))))))))))))))))))))))))),
  s_inc C0 (d_X8_tire_59) hgz (s_goto C0 (tgt := 2) (d_X8_tire_62) (by decide) hgz (fun _ _ _ h => h)),
  s_rv C0 hr (d_X8_tire_65) ⟨by decide, by decide⟩⟩
theorem c_X8_tire (l : Launch) : Ctr l yX8_tire cX8_tire 3 none 11 222 0 (fun sx => (nf G_X8_tire)) := ctr_of (by decide) gz gz ⟨rfl, rfl⟩ (fun p e s m args below meth c D ca ad sx sy A Q as M C0 hE hr hno hF => P_X8_tire (L_X8_tire C0 hE hr hno) hF)
theorem d_X8_homeOf_0 : decode cX8_homeOf 0 = .ok (.aload_n 0, 1) := by decide +kernel
theorem d_X8_homeOf_1 : decode cX8_homeOf 1 = .ok (.aload_n 0, 1) := by decide +kernel
theorem d_X8_homeOf_2 : decode cX8_homeOf 2 = .ok (.getfield 12, 3) := by decide +kernel
theorem d_X8_homeOf_5 : decode cX8_homeOf 5 = .ok (.getfield 58, 3) := by decide +kernel
theorem d_X8_homeOf_8 : decode cX8_homeOf 8 = .ok (.iload_n 1, 1) := by decide +kernel
theorem d_X8_homeOf_9 : decode cX8_homeOf 9 = .ok (.iaload, 1) := by decide +kernel
theorem d_X8_homeOf_10 : decode cX8_homeOf 10 = .ok (.invokevirtual 112, 3) := by decide +kernel
theorem d_X8_homeOf_13 : decode cX8_homeOf 13 = .ok (.ifCond .eq 7, 3) := by decide +kernel
theorem d_X8_homeOf_16 : decode cX8_homeOf 16 = .ok (.iconst (-1), 1) := by decide +kernel
theorem d_X8_homeOf_17 : decode cX8_homeOf 17 = .ok (.goto 12, 3) := by decide +kernel
theorem d_X8_homeOf_20 : decode cX8_homeOf 20 = .ok (.aload_n 0, 1) := by decide +kernel
theorem d_X8_homeOf_21 : decode cX8_homeOf 21 = .ok (.getfield 12, 3) := by decide +kernel
theorem d_X8_homeOf_24 : decode cX8_homeOf 24 = .ok (.getfield 58, 3) := by decide +kernel
theorem d_X8_homeOf_27 : decode cX8_homeOf 27 = .ok (.iload_n 1, 1) := by decide +kernel
theorem d_X8_homeOf_28 : decode cX8_homeOf 28 = .ok (.iaload, 1) := by decide +kernel
theorem d_X8_homeOf_29 : decode cX8_homeOf 29 = .ok (.ireturn, 1) := by decide +kernel
set_option maxRecDepth 100000 in
theorem L_X8_homeOf {p : Program} {l : Launch} {e : Env} {s : State} {m : MethodId} {args : Array Value} {below : List Frame} {meth : Method} {c : Code} {D : va_G} {ca : Nat → ClassId} {ad sx sy : Nat → Nat} {A : Nat → Prop} {Q : QT} (C0 : CX p s m args meth c cX8_homeOf 2 yX8_homeOf.cls D ca ad A) (hE : EX sx sy A s s.heap) (hr : meth.sig.returnType = (some .int)) (hno : ∀ x ∈ c.exceptionTable.toList, False) : R_X8_homeOf (JW p l e { frames := 11, cells := 0, slots := 6 * 0, locals := 221 } s m args below meth c 2 D ca ad A (vx_MQ below (Qn D ca ad A Q) (Qx D ca ad A Q) args s 0 (6 * 0) A) gz gz true) Q := ⟨s_aln C0 (d_X8_homeOf_0) hgz (s_aln C0 (d_X8_homeOf_1) hgz (s_gm C0 (j := 0) (c0 := 8) rfl gX8 (by decide) rfl rfl wg236 (d_X8_homeOf_2) hgz (s_grN C0 (j := 4) (c0 := 6) rfl gX6 (by decide) rfl rfl wn93 (d_X8_homeOf_5) hgz (s_iln C0 (d_X8_homeOf_8) hgz (s_ia C0 (d_X8_homeOf_9) hgz (s_callV C0 hE (c_X8_isSpent l) wg883 wg880 wg882 ws46 wg7 ⟨by decide, by decide⟩ (by decide +kernel) (c0 := 8) rfl ⟨by decide, by decide⟩ ⟨by decide, by decide⟩ (d_X8_homeOf_10) (fun x hx => (hno x hx).elim) ⟨by decide, by decide⟩ ⟨by decide, by decide⟩ (s_zeq C0 (d_X8_homeOf_13) (by decide) hgz hgz (fun _ _ _ h => h) (s_ic C0 (d_X8_homeOf_16) hgz (s_goto C0 (tgt := 29) (d_X8_homeOf_17) (by decide) hgz (fun _ _ _ h => h)) (okn rfl))))))))),
  s_aln C0 (d_X8_homeOf_20) hgz (s_gm C0 (j := 0) (c0 := 8) rfl gX8 (by decide) rfl rfl wg236 (d_X8_homeOf_21) hgz (s_grN C0 (j := 4) (c0 := 6) rfl gX6 (by decide) rfl rfl wn93 (d_X8_homeOf_24) hgz (s_iln C0 (d_X8_homeOf_27) hgz (s_ia C0 (d_X8_homeOf_28) hgz (fun _ _ _ h => h))))),
  s_ri C0 hr (d_X8_homeOf_29) ⟨by decide, by decide⟩⟩
theorem c_X8_homeOf (l : Launch) : Ctr l yX8_homeOf cX8_homeOf 2 (some .int) 11 221 0 (fun sx => (nf G_X8_homeOf)) := ctr_of (by decide) gz gz ⟨rfl, rfl⟩ (fun p e s m args below meth c D ca ad sx sy A Q as M C0 hE hr hno hF => P_X8_homeOf (L_X8_homeOf C0 hE hr hno) hF)
theorem wg879 : Cond.code ⟨"WeighedHall$Sitting", "homeOf", "(I)I"⟩ prog_10_method_11_code 2 (Option.some .int) ∈ GT := gt_mem 999 (by decide +kernel) rfl
theorem wg876 : Cond.methodLink "WeighedHall$Sitting" 89 ⟨"WeighedHall$Sitting", "homeOf", "(I)I"⟩ ∈ GT := gt_mem 996 (by decide +kernel) rfl
theorem wg878 : Cond.instanceMethod ⟨"WeighedHall$Sitting", "homeOf", "(I)I"⟩ ∈ GT := gt_mem 998 (by decide +kernel) rfl
theorem ws45 : Cond.selects "WeighedHall$Sitting" ⟨"WeighedHall$Sitting", "homeOf", "(I)I"⟩ ⟨"WeighedHall$Sitting", "homeOf", "(I)I"⟩ ∈ GT := gt_mem 45 (by decide +kernel) rfl
theorem wg241 : Cond.fieldLink "WeighedHall$Sitting" 29 "WeighedHall$Sitting" "through" "[I" ∈ GT := gt_mem 361 (by decide +kernel) rfl
theorem d_X8_comeIn_0 : decode cX8_comeIn 0 = .ok (.iconst 0, 1) := by decide +kernel
theorem d_X8_comeIn_1 : decode cX8_comeIn 1 = .ok (.istore_n 2, 1) := by decide +kernel
theorem d_X8_comeIn_2 : decode cX8_comeIn 2 = .ok (.iload_n 2, 1) := by decide +kernel
theorem d_X8_comeIn_3 : decode cX8_comeIn 3 = .ok (.aload_n 0, 1) := by decide +kernel
theorem d_X8_comeIn_4 : decode cX8_comeIn 4 = .ok (.getfield 12, 3) := by decide +kernel
theorem d_X8_comeIn_7 : decode cX8_comeIn 7 = .ok (.getfield 51, 3) := by decide +kernel
theorem d_X8_comeIn_10 : decode cX8_comeIn 10 = .ok (.if_icmp .ge 41, 3) := by decide +kernel
theorem d_X8_comeIn_13 : decode cX8_comeIn 13 = .ok (.aload_n 0, 1) := by decide +kernel
theorem d_X8_comeIn_14 : decode cX8_comeIn 14 = .ok (.getfield 25, 3) := by decide +kernel
theorem d_X8_comeIn_17 : decode cX8_comeIn 17 = .ok (.iload_n 2, 1) := by decide +kernel
theorem d_X8_comeIn_18 : decode cX8_comeIn 18 = .ok (.iaload, 1) := by decide +kernel
theorem d_X8_comeIn_19 : decode cX8_comeIn 19 = .ok (.bipush (-2), 2) := by decide +kernel
theorem d_X8_comeIn_21 : decode cX8_comeIn 21 = .ok (.if_icmp .ne 24, 3) := by decide +kernel
theorem d_X8_comeIn_24 : decode cX8_comeIn 24 = .ok (.aload_n 0, 1) := by decide +kernel
theorem d_X8_comeIn_25 : decode cX8_comeIn 25 = .ok (.getfield 29, 3) := by decide +kernel
theorem d_X8_comeIn_28 : decode cX8_comeIn 28 = .ok (.iload_n 2, 1) := by decide +kernel
theorem d_X8_comeIn_29 : decode cX8_comeIn 29 = .ok (.iaload, 1) := by decide +kernel
theorem d_X8_comeIn_30 : decode cX8_comeIn 30 = .ok (.iload_n 1, 1) := by decide +kernel
theorem d_X8_comeIn_31 : decode cX8_comeIn 31 = .ok (.if_icmp .ne 14, 3) := by decide +kernel
theorem d_X8_comeIn_34 : decode cX8_comeIn 34 = .ok (.aload_n 0, 1) := by decide +kernel
theorem d_X8_comeIn_35 : decode cX8_comeIn 35 = .ok (.getfield 25, 3) := by decide +kernel
theorem d_X8_comeIn_38 : decode cX8_comeIn 38 = .ok (.iload_n 2, 1) := by decide +kernel
theorem d_X8_comeIn_39 : decode cX8_comeIn 39 = .ok (.aload_n 0, 1) := by decide +kernel
theorem d_X8_comeIn_40 : decode cX8_comeIn 40 = .ok (.iload_n 2, 1) := by decide +kernel
theorem d_X8_comeIn_41 : decode cX8_comeIn 41 = .ok (.invokevirtual 89, 3) := by decide +kernel
theorem d_X8_comeIn_44 : decode cX8_comeIn 44 = .ok (.iastore, 1) := by decide +kernel
theorem d_X8_comeIn_45 : decode cX8_comeIn 45 = .ok (.iinc 2 1, 3) := by decide +kernel
theorem d_X8_comeIn_48 : decode cX8_comeIn 48 = .ok (.goto (-46), 3) := by decide +kernel
theorem d_X8_comeIn_51 : decode cX8_comeIn 51 = .ok (.return_, 1) := by decide +kernel
set_option maxRecDepth 100000 in
theorem L_X8_comeIn {p : Program} {l : Launch} {e : Env} {s : State} {m : MethodId} {args : Array Value} {below : List Frame} {meth : Method} {c : Code} {D : va_G} {ca : Nat → ClassId} {ad sx sy : Nat → Nat} {A : Nat → Prop} {Q : QT} (C0 : CX p s m args meth c cX8_comeIn 3 yX8_comeIn.cls D ca ad A) (hE : EX sx sy A s s.heap) (hr : meth.sig.returnType = none) (hno : ∀ x ∈ c.exceptionTable.toList, False) : R_X8_comeIn (JW p l e { frames := 12, cells := 0, slots := 6 * 0, locals := 242 } s m args below meth c 3 D ca ad A (vx_MQ below (Qn D ca ad A Q) (Qx D ca ad A Q) args s 0 (6 * 0) A) gz gz true) Q := ⟨s_ic C0 (d_X8_comeIn_0) hgz (s_isn C0 (d_X8_comeIn_1) hgz (fun _ _ _ h => h)) (okn rfl),
  s_iln C0 (d_X8_comeIn_2) hgz (s_aln C0 (d_X8_comeIn_3) hgz (s_gm C0 (j := 0) (c0 := 8) rfl gX8 (by decide) rfl rfl wg236 (d_X8_comeIn_4) hgz (s_giN C0 (j := 3) (c0 := 6) rfl gX6 (by decide) rfl (by decide) wn85 (d_X8_comeIn_7) hgz (s_cge C0 (d_X8_comeIn_10) (by decide) hgz hgz (fun _ _ _ h => h) (s_aln C0 (d_X8_comeIn_13) hgz (s_gr C0 (j := 2) (c0 := 8) rfl gX8 (by decide) rfl rfl wg239 (d_X8_comeIn_14) hgz (s_iln C0 (d_X8_comeIn_17) hgz (s_ia C0 (d_X8_comeIn_18) hgz (s_bi C0 (d_X8_comeIn_19) hgz (s_cne C0 (d_X8_comeIn_21) (by decide) hgz hgz (fun _ _ _ h => h) (s_aln C0 (d_X8_comeIn_24) hgz (s_gr C0 (j := 3) (c0 := 8) rfl gX8 (by decide) rfl rfl wg241 (d_X8_comeIn_25) hgz (s_iln C0 (d_X8_comeIn_28) hgz (s_ia C0 (d_X8_comeIn_29) hgz (s_iln C0 (d_X8_comeIn_30) hgz (s_cne C0 (d_X8_comeIn_31) (by decide) hgz hgz (fun _ _ _ h => h) (s_aln C0 (d_X8_comeIn_34) hgz (s_gr C0 (j := 2) (c0 := 8) rfl gX8 (by decide) rfl rfl wg239 (d_X8_comeIn_35) hgz (s_iln C0 (d_X8_comeIn_38) hgz (s_aln C0 (d_X8_comeIn_39) hgz (s_iln C0 (d_X8_comeIn_40) hgz (s_callV C0 hE (c_X8_homeOf l) wg879 wg876 wg878 ws45 wg7 ⟨by decide, by decide⟩ (by decide +kernel) (c0 := 8) rfl ⟨by decide, by decide⟩ ⟨by decide, by decide⟩ (d_X8_comeIn_41) (fun x hx => (hno x hx).elim) ⟨by decide, by decide⟩ ⟨by decide, by decide⟩ (s_iax C0 (d_X8_comeIn_44) hgz (fun _ _ _ h => h))))))))))))))) (okn rfl) rfl))))))))),
  s_inc C0 (d_X8_comeIn_45) hgz (s_goto C0 (tgt := 2) (d_X8_comeIn_48) (by decide) hgz (fun _ _ _ h => h)),
  s_rv C0 hr (d_X8_comeIn_51) ⟨by decide, by decide⟩⟩
theorem c_X8_comeIn (l : Launch) : Ctr l yX8_comeIn cX8_comeIn 3 none 12 242 0 (fun sx => (nf G_X8_comeIn)) := ctr_of (by decide) gz gz ⟨rfl, rfl⟩ (fun p e s m args below meth c D ca ad sx sy A Q as M C0 hE hr hno hF => P_X8_comeIn (L_X8_comeIn C0 hE hr hno) hF)
theorem wg71 : Cond.fieldLink "WeighedHall$Plan" 42 "WeighedHall$Plan" "persons" "I" ∈ GT := gt_mem 191 (by decide +kernel) rfl
theorem d_X6_hasPerson_0 : decode cX6_hasPerson 0 = .ok (.iload_n 1, 1) := by decide +kernel
theorem d_X6_hasPerson_1 : decode cX6_hasPerson 1 = .ok (.ifCond .lt 15, 3) := by decide +kernel
theorem d_X6_hasPerson_4 : decode cX6_hasPerson 4 = .ok (.iload_n 1, 1) := by decide +kernel
theorem d_X6_hasPerson_5 : decode cX6_hasPerson 5 = .ok (.aload_n 0, 1) := by decide +kernel
theorem d_X6_hasPerson_6 : decode cX6_hasPerson 6 = .ok (.getfield 42, 3) := by decide +kernel
theorem d_X6_hasPerson_9 : decode cX6_hasPerson 9 = .ok (.if_icmp .ge 7, 3) := by decide +kernel
theorem d_X6_hasPerson_12 : decode cX6_hasPerson 12 = .ok (.iconst 1, 1) := by decide +kernel
theorem d_X6_hasPerson_13 : decode cX6_hasPerson 13 = .ok (.goto 4, 3) := by decide +kernel
theorem d_X6_hasPerson_16 : decode cX6_hasPerson 16 = .ok (.iconst 0, 1) := by decide +kernel
theorem d_X6_hasPerson_17 : decode cX6_hasPerson 17 = .ok (.ireturn, 1) := by decide +kernel
set_option maxRecDepth 100000 in
theorem L_X6_hasPerson {p : Program} {l : Launch} {e : Env} {s : State} {m : MethodId} {args : Array Value} {below : List Frame} {meth : Method} {c : Code} {D : va_G} {ca : Nat → ClassId} {ad sx sy : Nat → Nat} {A : Nat → Prop} {Q : QT} (C0 : CX p s m args meth c cX6_hasPerson 2 yX6_hasPerson.cls D ca ad A) (hE : EX sx sy A s s.heap) (hr : meth.sig.returnType = (some .boolean)) (hno : ∀ x ∈ c.exceptionTable.toList, False) : R_X6_hasPerson (JW p l e { frames := 10, cells := 0, slots := 6 * 0, locals := 200 } s m args below meth c 2 D ca ad A (vx_MQ below (Qn D ca ad A Q) (Qx D ca ad A Q) args s 0 (6 * 0) A) gz gz true) Q := ⟨s_iln C0 (d_X6_hasPerson_0) hgz (s_zlt C0 (d_X6_hasPerson_1) (by decide) hgz hgz (fun _ _ _ h => h) (s_iln C0 (d_X6_hasPerson_4) hgz (s_aln C0 (d_X6_hasPerson_5) hgz (s_gi C0 (j := 0) (c0 := 6) rfl gX6 (by decide) rfl (by decide) wg71 (d_X6_hasPerson_6) hgz (s_cge C0 (d_X6_hasPerson_9) (by decide) hgz hgz (fun _ _ _ h => h) (s_ic C0 (d_X6_hasPerson_12) hgz (s_goto C0 (tgt := 17) (d_X6_hasPerson_13) (by decide) hgz (fun _ _ _ h => h)) (okn rfl))))))),
  s_ic C0 (d_X6_hasPerson_16) hgz (fun _ _ _ h => h) (okn rfl),
  s_rz C0 hr (d_X6_hasPerson_17) ⟨by decide, by decide⟩⟩
theorem c_X6_hasPerson (l : Launch) : Ctr l yX6_hasPerson cX6_hasPerson 2 (some .boolean) 10 200 0 (fun sx => (nf G_X6_hasPerson)) := ctr_of (by decide) gz gz ⟨rfl, rfl⟩ (fun p e s m args below meth c D ca ad sx sy A Q as M C0 hE hr hno hF => P_X6_hasPerson (L_X6_hasPerson C0 hE hr hno) hF)
theorem wn103 : Cond.fieldLinkNest "WeighedHall$Sitting" 118 "WeighedHall$Plan" "weight" "[I" "WeighedHall" ∈ NT := nt_mem 103 (by decide +kernel) rfl
theorem wg811 : Cond.code ⟨"WeighedHall$Plan", "hasPerson", "(I)Z"⟩ prog_8_method_12_code 2 (Option.some .boolean) ∈ GT := gt_mem 931 (by decide +kernel) rfl
theorem wn897 : Cond.methodLinkNest "WeighedHall$Sitting" 115 ⟨"WeighedHall$Plan", "hasPerson", "(I)Z"⟩ "WeighedHall" ∈ NT := nt_mem 897 (by decide +kernel) rfl
theorem wg810 : Cond.instanceMethod ⟨"WeighedHall$Plan", "hasPerson", "(I)Z"⟩ ∈ GT := gt_mem 930 (by decide +kernel) rfl
theorem ws36 : Cond.selects "WeighedHall$Plan" ⟨"WeighedHall$Plan", "hasPerson", "(I)Z"⟩ ⟨"WeighedHall$Plan", "hasPerson", "(I)Z"⟩ ∈ GT := gt_mem 36 (by decide +kernel) rfl
theorem d_X8_weighHolders_0 : decode cX8_weighHolders 0 = .ok (.iconst 0, 1) := by decide +kernel
theorem d_X8_weighHolders_1 : decode cX8_weighHolders 1 = .ok (.istore_n 1, 1) := by decide +kernel
theorem d_X8_weighHolders_2 : decode cX8_weighHolders 2 = .ok (.iload_n 1, 1) := by decide +kernel
theorem d_X8_weighHolders_3 : decode cX8_weighHolders 3 = .ok (.aload_n 0, 1) := by decide +kernel
theorem d_X8_weighHolders_4 : decode cX8_weighHolders 4 = .ok (.getfield 12, 3) := by decide +kernel
theorem d_X8_weighHolders_7 : decode cX8_weighHolders 7 = .ok (.getfield 61, 3) := by decide +kernel
theorem d_X8_weighHolders_10 : decode cX8_weighHolders 10 = .ok (.if_icmp .ge 16, 3) := by decide +kernel
theorem d_X8_weighHolders_13 : decode cX8_weighHolders 13 = .ok (.aload_n 0, 1) := by decide +kernel
theorem d_X8_weighHolders_14 : decode cX8_weighHolders 14 = .ok (.getfield 35, 3) := by decide +kernel
theorem d_X8_weighHolders_17 : decode cX8_weighHolders 17 = .ok (.iload_n 1, 1) := by decide +kernel
theorem d_X8_weighHolders_18 : decode cX8_weighHolders 18 = .ok (.iconst 0, 1) := by decide +kernel
theorem d_X8_weighHolders_19 : decode cX8_weighHolders 19 = .ok (.iastore, 1) := by decide +kernel
theorem d_X8_weighHolders_20 : decode cX8_weighHolders 20 = .ok (.iinc 1 1, 3) := by decide +kernel
theorem d_X8_weighHolders_23 : decode cX8_weighHolders 23 = .ok (.goto (-21), 3) := by decide +kernel
theorem d_X8_weighHolders_26 : decode cX8_weighHolders 26 = .ok (.iconst 0, 1) := by decide +kernel
theorem d_X8_weighHolders_27 : decode cX8_weighHolders 27 = .ok (.istore_n 1, 1) := by decide +kernel
theorem d_X8_weighHolders_28 : decode cX8_weighHolders 28 = .ok (.iload_n 1, 1) := by decide +kernel
theorem d_X8_weighHolders_29 : decode cX8_weighHolders 29 = .ok (.aload_n 0, 1) := by decide +kernel
theorem d_X8_weighHolders_30 : decode cX8_weighHolders 30 = .ok (.getfield 12, 3) := by decide +kernel
theorem d_X8_weighHolders_33 : decode cX8_weighHolders 33 = .ok (.getfield 51, 3) := by decide +kernel
theorem d_X8_weighHolders_36 : decode cX8_weighHolders 36 = .ok (.if_icmp .ge 48, 3) := by decide +kernel
theorem d_X8_weighHolders_39 : decode cX8_weighHolders 39 = .ok (.aload_n 0, 1) := by decide +kernel
theorem d_X8_weighHolders_40 : decode cX8_weighHolders 40 = .ok (.getfield 12, 3) := by decide +kernel
theorem d_X8_weighHolders_43 : decode cX8_weighHolders 43 = .ok (.aload_n 0, 1) := by decide +kernel
theorem d_X8_weighHolders_44 : decode cX8_weighHolders 44 = .ok (.getfield 25, 3) := by decide +kernel
theorem d_X8_weighHolders_47 : decode cX8_weighHolders 47 = .ok (.iload_n 1, 1) := by decide +kernel
theorem d_X8_weighHolders_48 : decode cX8_weighHolders 48 = .ok (.iaload, 1) := by decide +kernel
theorem d_X8_weighHolders_49 : decode cX8_weighHolders 49 = .ok (.invokevirtual 115, 3) := by decide +kernel
theorem d_X8_weighHolders_52 : decode cX8_weighHolders 52 = .ok (.ifCond .eq 26, 3) := by decide +kernel
theorem d_X8_weighHolders_55 : decode cX8_weighHolders 55 = .ok (.aload_n 0, 1) := by decide +kernel
theorem d_X8_weighHolders_56 : decode cX8_weighHolders 56 = .ok (.getfield 35, 3) := by decide +kernel
theorem d_X8_weighHolders_59 : decode cX8_weighHolders 59 = .ok (.aload_n 0, 1) := by decide +kernel
theorem d_X8_weighHolders_60 : decode cX8_weighHolders 60 = .ok (.getfield 25, 3) := by decide +kernel
theorem d_X8_weighHolders_63 : decode cX8_weighHolders 63 = .ok (.iload_n 1, 1) := by decide +kernel
theorem d_X8_weighHolders_64 : decode cX8_weighHolders 64 = .ok (.iaload, 1) := by decide +kernel
theorem d_X8_weighHolders_65 : decode cX8_weighHolders 65 = .ok (.dup2, 1) := by decide +kernel
theorem d_X8_weighHolders_66 : decode cX8_weighHolders 66 = .ok (.iaload, 1) := by decide +kernel
theorem d_X8_weighHolders_67 : decode cX8_weighHolders 67 = .ok (.aload_n 0, 1) := by decide +kernel
theorem d_X8_weighHolders_68 : decode cX8_weighHolders 68 = .ok (.getfield 12, 3) := by decide +kernel
theorem d_X8_weighHolders_71 : decode cX8_weighHolders 71 = .ok (.getfield 118, 3) := by decide +kernel
theorem d_X8_weighHolders_74 : decode cX8_weighHolders 74 = .ok (.iload_n 1, 1) := by decide +kernel
theorem d_X8_weighHolders_75 : decode cX8_weighHolders 75 = .ok (.iaload, 1) := by decide +kernel
theorem d_X8_weighHolders_76 : decode cX8_weighHolders 76 = .ok (.iadd, 1) := by decide +kernel
theorem d_X8_weighHolders_77 : decode cX8_weighHolders 77 = .ok (.iastore, 1) := by decide +kernel
theorem d_X8_weighHolders_78 : decode cX8_weighHolders 78 = .ok (.iinc 1 1, 3) := by decide +kernel
theorem d_X8_weighHolders_81 : decode cX8_weighHolders 81 = .ok (.goto (-53), 3) := by decide +kernel
theorem d_X8_weighHolders_84 : decode cX8_weighHolders 84 = .ok (.return_, 1) := by decide +kernel
set_option maxRecDepth 100000 in
theorem L_X8_weighHolders {p : Program} {l : Launch} {e : Env} {s : State} {m : MethodId} {args : Array Value} {below : List Frame} {meth : Method} {c : Code} {D : va_G} {ca : Nat → ClassId} {ad sx sy : Nat → Nat} {A : Nat → Prop} {Q : QT} (C0 : CX p s m args meth c cX8_weighHolders 2 yX8_weighHolders.cls D ca ad A) (hE : EX sx sy A s s.heap) (hr : meth.sig.returnType = none) (hno : ∀ x ∈ c.exceptionTable.toList, False) : R_X8_weighHolders (JW p l e { frames := 11, cells := 0, slots := 6 * 0, locals := 221 } s m args below meth c 2 D ca ad A (vx_MQ below (Qn D ca ad A Q) (Qx D ca ad A Q) args s 0 (6 * 0) A) gz gz true) Q := ⟨s_ic C0 (d_X8_weighHolders_0) hgz (s_isn C0 (d_X8_weighHolders_1) hgz (fun _ _ _ h => h)) (okn rfl),
  s_iln C0 (d_X8_weighHolders_2) hgz (s_aln C0 (d_X8_weighHolders_3) hgz (s_gm C0 (j := 0) (c0 := 8) rfl gX8 (by decide) rfl rfl wg236 (d_X8_weighHolders_4) hgz (s_giN C0 (j := 0) (c0 := 6) rfl gX6 (by decide) rfl (by decide) wn73 (d_X8_weighHolders_7) hgz (s_cge C0 (d_X8_weighHolders_10) (by decide) hgz hgz (fun _ _ _ h => h) (s_aln C0 (d_X8_weighHolders_13) hgz (s_gr C0 (j := 5) (c0 := 8) rfl gX8 (by decide) rfl rfl wg244 (d_X8_weighHolders_14) hgz (s_iln C0 (d_X8_weighHolders_17) hgz (s_ic C0 (d_X8_weighHolders_18) hgz (s_iax C0 (d_X8_weighHolders_19) hgz (s_inc C0 (d_X8_weighHolders_20) hgz (s_goto C0 (tgt := 2) (d_X8_weighHolders_23) (by decide) hgz (fun _ _ _ h => h)))) (okn rfl))))))))),
  s_ic C0 (d_X8_weighHolders_26) hgz (s_isn C0 (d_X8_weighHolders_27) hgz (fun _ _ _ h => h)) (okn rfl),
  s_iln C0 (d_X8_weighHolders_28) hgz (s_aln C0 (d_X8_weighHolders_29) hgz (s_gm C0 (j := 0) (c0 := 8) rfl gX8 (by decide) rfl rfl wg236 (d_X8_weighHolders_30) hgz (s_giN C0 (j := 3) (c0 := 6) rfl gX6 (by decide) rfl (by decide) wn85 (d_X8_weighHolders_33) hgz (s_cge C0 (d_X8_weighHolders_36) (by decide) hgz hgz (fun _ _ _ h => h) (s_aln C0 (d_X8_weighHolders_39) hgz (s_gm C0 (j := 0) (c0 := 8) rfl gX8 (by decide) rfl rfl wg236 (d_X8_weighHolders_40) hgz (s_aln C0 (d_X8_weighHolders_43) hgz (s_gr C0 (j := 2) (c0 := 8) rfl gX8 (by decide) rfl rfl wg239 (d_X8_weighHolders_44) hgz (s_iln C0 (d_X8_weighHolders_47) hgz (s_ia C0 (d_X8_weighHolders_48) hgz (s_callVN C0 hE (c_X6_hasPerson l) wg811 wn897 wg810 ws36 wg3 ⟨by decide, by decide⟩ (by decide +kernel) (c0 := 6) rfl ⟨by decide, by decide⟩ ⟨by decide, by decide⟩ (d_X8_weighHolders_49) (fun x hx => (hno x hx).elim) ⟨by decide, by decide⟩ ⟨by decide, by decide⟩ (s_zeq C0 (d_X8_weighHolders_52) (by decide) hgz hgz (fun _ _ _ h => h) (s_aln C0 (d_X8_weighHolders_55) hgz (s_gr C0 (j := 5) (c0 := 8) rfl gX8 (by decide) rfl rfl wg244 (d_X8_weighHolders_56) hgz (s_aln C0 (d_X8_weighHolders_59) hgz (s_gr C0 (j := 2) (c0 := 8) rfl gX8 (by decide) rfl rfl wg239 (d_X8_weighHolders_60) hgz (s_iln C0 (d_X8_weighHolders_63) hgz (s_ia C0 (d_X8_weighHolders_64) hgz (s_dup2 C0 (d_X8_weighHolders_65) hgz (s_ia C0 (d_X8_weighHolders_66) hgz (s_aln C0 (d_X8_weighHolders_67) hgz (s_gm C0 (j := 0) (c0 := 8) rfl gX8 (by decide) rfl rfl wg236 (d_X8_weighHolders_68) hgz (s_grN C0 (j := 5) (c0 := 6) rfl gX6 (by decide) rfl rfl wn103 (d_X8_weighHolders_71) hgz (s_iln C0 (d_X8_weighHolders_74) hgz (s_ia C0 (d_X8_weighHolders_75) hgz (s_add C0 (d_X8_weighHolders_76) hgz (s_iax C0 (d_X8_weighHolders_77) hgz (fun _ _ _ h => h)))))))))))))))))))))))))))),
  s_inc C0 (d_X8_weighHolders_78) hgz (s_goto C0 (tgt := 28) (d_X8_weighHolders_81) (by decide) hgz (fun _ _ _ h => h)),
  s_rv C0 hr (d_X8_weighHolders_84) ⟨by decide, by decide⟩⟩
theorem c_X8_weighHolders (l : Launch) : Ctr l yX8_weighHolders cX8_weighHolders 2 none 11 221 0 (fun sx => (nf G_X8_weighHolders)) := ctr_of (by decide) gz gz ⟨rfl, rfl⟩ (fun p e s m args below meth c D ca ad sx sy A Q as M C0 hE hr hno hF => P_X8_weighHolders (L_X8_weighHolders C0 hE hr hno) hF)
theorem wn182 : Cond.fieldLinkNest "WeighedHall$Sitting" 99 "WeighedHall$Loans" "till" "[I" "WeighedHall" ∈ NT := nt_mem 182 (by decide +kernel) rfl
theorem d_X8_giveBack_0 : decode cX8_giveBack 0 = .ok (.iconst 0, 1) := by decide +kernel
theorem d_X8_giveBack_1 : decode cX8_giveBack 1 = .ok (.istore_n 2, 1) := by decide +kernel
theorem d_X8_giveBack_2 : decode cX8_giveBack 2 = .ok (.iload_n 2, 1) := by decide +kernel
theorem d_X8_giveBack_3 : decode cX8_giveBack 3 = .ok (.aload_n 0, 1) := by decide +kernel
theorem d_X8_giveBack_4 : decode cX8_giveBack 4 = .ok (.getfield 21, 3) := by decide +kernel
theorem d_X8_giveBack_7 : decode cX8_giveBack 7 = .ok (.getfield 93, 3) := by decide +kernel
theorem d_X8_giveBack_10 : decode cX8_giveBack 10 = .ok (.if_icmp .ge 89, 3) := by decide +kernel
theorem d_X8_giveBack_13 : decode cX8_giveBack 13 = .ok (.aload_n 0, 1) := by decide +kernel
theorem d_X8_giveBack_14 : decode cX8_giveBack 14 = .ok (.getfield 21, 3) := by decide +kernel
theorem d_X8_giveBack_17 : decode cX8_giveBack 17 = .ok (.getfield 96, 3) := by decide +kernel
theorem d_X8_giveBack_20 : decode cX8_giveBack 20 = .ok (.iload_n 2, 1) := by decide +kernel
theorem d_X8_giveBack_21 : decode cX8_giveBack 21 = .ok (.iaload, 1) := by decide +kernel
theorem d_X8_giveBack_22 : decode cX8_giveBack 22 = .ok (.istore_n 3, 1) := by decide +kernel
theorem d_X8_giveBack_23 : decode cX8_giveBack 23 = .ok (.aload_n 0, 1) := by decide +kernel
theorem d_X8_giveBack_24 : decode cX8_giveBack 24 = .ok (.getfield 21, 3) := by decide +kernel
theorem d_X8_giveBack_27 : decode cX8_giveBack 27 = .ok (.getfield 99, 3) := by decide +kernel
theorem d_X8_giveBack_30 : decode cX8_giveBack 30 = .ok (.iload_n 2, 1) := by decide +kernel
theorem d_X8_giveBack_31 : decode cX8_giveBack 31 = .ok (.iaload, 1) := by decide +kernel
theorem d_X8_giveBack_32 : decode cX8_giveBack 32 = .ok (.iload_n 1, 1) := by decide +kernel
theorem d_X8_giveBack_33 : decode cX8_giveBack 33 = .ok (.if_icmp .ne 60, 3) := by decide +kernel
theorem d_X8_giveBack_36 : decode cX8_giveBack 36 = .ok (.aload_n 0, 1) := by decide +kernel
theorem d_X8_giveBack_37 : decode cX8_giveBack 37 = .ok (.getfield 12, 3) := by decide +kernel
theorem d_X8_giveBack_40 : decode cX8_giveBack 40 = .ok (.iload_n 3, 1) := by decide +kernel
theorem d_X8_giveBack_41 : decode cX8_giveBack 41 = .ok (.invokevirtual 102, 3) := by decide +kernel
theorem d_X8_giveBack_44 : decode cX8_giveBack 44 = .ok (.ifCond .eq 49, 3) := by decide +kernel
theorem d_X8_giveBack_47 : decode cX8_giveBack 47 = .ok (.aload_n 0, 1) := by decide +kernel
theorem d_X8_giveBack_48 : decode cX8_giveBack 48 = .ok (.getfield 32, 3) := by decide +kernel
theorem d_X8_giveBack_51 : decode cX8_giveBack 51 = .ok (.iload_n 3, 1) := by decide +kernel
theorem d_X8_giveBack_52 : decode cX8_giveBack 52 = .ok (.iaload, 1) := by decide +kernel
theorem d_X8_giveBack_53 : decode cX8_giveBack 53 = .ok (.iload_n 2, 1) := by decide +kernel
theorem d_X8_giveBack_54 : decode cX8_giveBack 54 = .ok (.if_icmp .ne 39, 3) := by decide +kernel
theorem d_X8_giveBack_57 : decode cX8_giveBack 57 = .ok (.aload_n 0, 1) := by decide +kernel
theorem d_X8_giveBack_58 : decode cX8_giveBack 58 = .ok (.getfield 32, 3) := by decide +kernel
theorem d_X8_giveBack_61 : decode cX8_giveBack 61 = .ok (.iload_n 3, 1) := by decide +kernel
theorem d_X8_giveBack_62 : decode cX8_giveBack 62 = .ok (.iconst (-1), 1) := by decide +kernel
theorem d_X8_giveBack_63 : decode cX8_giveBack 63 = .ok (.iastore, 1) := by decide +kernel
theorem d_X8_giveBack_64 : decode cX8_giveBack 64 = .ok (.aload_n 0, 1) := by decide +kernel
theorem d_X8_giveBack_65 : decode cX8_giveBack 65 = .ok (.getfield 25, 3) := by decide +kernel
theorem d_X8_giveBack_68 : decode cX8_giveBack 68 = .ok (.iload_n 3, 1) := by decide +kernel
theorem d_X8_giveBack_69 : decode cX8_giveBack 69 = .ok (.iaload, 1) := by decide +kernel
theorem d_X8_giveBack_70 : decode cX8_giveBack 70 = .ok (.aload_n 0, 1) := by decide +kernel
theorem d_X8_giveBack_71 : decode cX8_giveBack 71 = .ok (.getfield 21, 3) := by decide +kernel
theorem d_X8_giveBack_74 : decode cX8_giveBack 74 = .ok (.getfield 106, 3) := by decide +kernel
theorem d_X8_giveBack_77 : decode cX8_giveBack 77 = .ok (.iload_n 2, 1) := by decide +kernel
theorem d_X8_giveBack_78 : decode cX8_giveBack 78 = .ok (.iaload, 1) := by decide +kernel
theorem d_X8_giveBack_79 : decode cX8_giveBack 79 = .ok (.if_icmp .ne 14, 3) := by decide +kernel
theorem d_X8_giveBack_82 : decode cX8_giveBack 82 = .ok (.aload_n 0, 1) := by decide +kernel
theorem d_X8_giveBack_83 : decode cX8_giveBack 83 = .ok (.getfield 25, 3) := by decide +kernel
theorem d_X8_giveBack_86 : decode cX8_giveBack 86 = .ok (.iload_n 3, 1) := by decide +kernel
theorem d_X8_giveBack_87 : decode cX8_giveBack 87 = .ok (.aload_n 0, 1) := by decide +kernel
theorem d_X8_giveBack_88 : decode cX8_giveBack 88 = .ok (.iload_n 3, 1) := by decide +kernel
theorem d_X8_giveBack_89 : decode cX8_giveBack 89 = .ok (.invokevirtual 89, 3) := by decide +kernel
theorem d_X8_giveBack_92 : decode cX8_giveBack 92 = .ok (.iastore, 1) := by decide +kernel
theorem d_X8_giveBack_93 : decode cX8_giveBack 93 = .ok (.iinc 2 1, 3) := by decide +kernel
theorem d_X8_giveBack_96 : decode cX8_giveBack 96 = .ok (.goto (-94), 3) := by decide +kernel
theorem d_X8_giveBack_99 : decode cX8_giveBack 99 = .ok (.return_, 1) := by decide +kernel
set_option maxRecDepth 100000 in
theorem L_X8_giveBack {p : Program} {l : Launch} {e : Env} {s : State} {m : MethodId} {args : Array Value} {below : List Frame} {meth : Method} {c : Code} {D : va_G} {ca : Nat → ClassId} {ad sx sy : Nat → Nat} {A : Nat → Prop} {Q : QT} (C0 : CX p s m args meth c cX8_giveBack 4 yX8_giveBack.cls D ca ad A) (hE : EX sx sy A s s.heap) (hr : meth.sig.returnType = none) (hno : ∀ x ∈ c.exceptionTable.toList, False) : R_X8_giveBack (JW p l e { frames := 12, cells := 0, slots := 6 * 0, locals := 242 } s m args below meth c 4 D ca ad A (vx_MQ below (Qn D ca ad A Q) (Qx D ca ad A Q) args s 0 (6 * 0) A) gz gz true) Q := ⟨s_ic C0 (d_X8_giveBack_0) hgz (s_isn C0 (d_X8_giveBack_1) hgz (fun _ _ _ h => h)) (okn rfl),
  s_iln C0 (d_X8_giveBack_2) hgz (s_aln C0 (d_X8_giveBack_3) hgz (s_gm C0 (j := 1) (c0 := 8) rfl gX8 (by decide) rfl rfl wg238 (d_X8_giveBack_4) hgz (s_giN C0 (j := 0) (c0 := 5) rfl gX5 (by decide) rfl (by decide) wn174 (d_X8_giveBack_7) hgz (s_cge C0 (d_X8_giveBack_10) (by decide) hgz hgz (fun _ _ _ h => h) (s_aln C0 (d_X8_giveBack_13) hgz (s_gm C0 (j := 1) (c0 := 8) rfl gX8 (by decide) rfl rfl wg238 (d_X8_giveBack_14) hgz (s_grN C0 (j := 1) (c0 := 5) rfl gX5 (by decide) rfl rfl wn176 (d_X8_giveBack_17) hgz (s_iln C0 (d_X8_giveBack_20) hgz (s_ia C0 (d_X8_giveBack_21) hgz (s_isn C0 (d_X8_giveBack_22) hgz (s_aln C0 (d_X8_giveBack_23) hgz (s_gm C0 (j := 1) (c0 := 8) rfl gX8 (by decide) rfl rfl wg238 (d_X8_giveBack_24) hgz (s_grN C0 (j := 4) (c0 := 5) rfl gX5 (by decide) rfl rfl wn182 (d_X8_giveBack_27) hgz (s_iln C0 (d_X8_giveBack_30) hgz (s_ia C0 (d_X8_giveBack_31) hgz (s_iln C0 (d_X8_giveBack_32) hgz (s_cne C0 (d_X8_giveBack_33) (by decide) hgz hgz (fun _ _ _ h => h) (s_aln C0 (d_X8_giveBack_36) hgz (s_gm C0 (j := 0) (c0 := 8) rfl gX8 (by decide) rfl rfl wg236 (d_X8_giveBack_37) hgz (s_iln C0 (d_X8_giveBack_40) hgz (s_callVN C0 hE (c_X6_hasThing l) wg791 wn888 wg790 ws35 wg3 ⟨by decide, by decide⟩ (by decide +kernel) (c0 := 6) rfl ⟨by decide, by decide⟩ ⟨by decide, by decide⟩ (d_X8_giveBack_41) (fun x hx => (hno x hx).elim) ⟨by decide, by decide⟩ ⟨by decide, by decide⟩ (s_zeq C0 (d_X8_giveBack_44) (by decide) hgz hgz (fun _ _ _ h => h) (s_aln C0 (d_X8_giveBack_47) hgz (s_gr C0 (j := 4) (c0 := 8) rfl gX8 (by decide) rfl rfl wg243 (d_X8_giveBack_48) hgz (s_iln C0 (d_X8_giveBack_51) hgz (s_ia C0 (d_X8_giveBack_52) hgz (s_iln C0 (d_X8_giveBack_53) hgz (s_cne C0 (d_X8_giveBack_54) (by decide) hgz hgz (fun _ _ _ h => h) (s_aln C0 (d_X8_giveBack_57) hgz (s_gr C0 (j := 4) (c0 := 8) rfl gX8 (by decide) rfl rfl wg243 (d_X8_giveBack_58) hgz (s_iln C0 (d_X8_giveBack_61) hgz (s_ic C0 (d_X8_giveBack_62) hgz (s_iax C0 (d_X8_giveBack_63) hgz (s_aln C0 (d_X8_giveBack_64) hgz (s_gr C0 (j := 2) (c0 := 8) rfl gX8 (by decide) rfl rfl wg239 (d_X8_giveBack_65) hgz (s_iln C0 (d_X8_giveBack_68) hgz (s_ia C0 (d_X8_giveBack_69) hgz (s_aln C0 (d_X8_giveBack_70) hgz (s_gm C0 (j := 1) (c0 := 8) rfl gX8 (by decide) rfl rfl wg238 (d_X8_giveBack_71) hgz (s_grN C0 (j := 2) (c0 := 5) rfl gX5 (by decide) rfl rfl wn178 (d_X8_giveBack_74) hgz (s_iln C0 (d_X8_giveBack_77) hgz (s_ia C0 (d_X8_giveBack_78) hgz (s_cne C0 (d_X8_giveBack_79) (by decide) hgz hgz (fun _ _ _ h => h) (s_aln C0 (d_X8_giveBack_82) hgz (s_gr C0 (j := 2) (c0 := 8) rfl gX8 (by decide) rfl rfl wg239 (d_X8_giveBack_83) hgz (s_iln C0 (d_X8_giveBack_86) hgz (s_aln C0 (d_X8_giveBack_87) hgz (s_iln C0 (d_X8_giveBack_88) hgz (s_callV C0 hE (c_X8_homeOf l) wg879 wg876 wg878 ws45 wg7 ⟨by decide, by decide⟩ (by decide +kernel) (c0 := 8) rfl ⟨by decide, by decide⟩ ⟨by decide, by decide⟩ (d_X8_giveBack_89) (fun x hx => (hno x hx).elim) ⟨by decide, by decide⟩ ⟨by decide, by decide⟩ (s_iax C0 (d_X8_giveBack_92) hgz (fun _ _ _ h => h))))))))))))))))))) (okn rfl))))))))))))))))))))))))))))))))),
  s_inc C0 (d_X8_giveBack_93) hgz (s_goto C0 (tgt := 2) (d_X8_giveBack_96) (by decide) hgz (fun _ _ _ h => h)),
  s_rv C0 hr (d_X8_giveBack_99) ⟨by decide, by decide⟩⟩
theorem c_X8_giveBack (l : Launch) : Ctr l yX8_giveBack cX8_giveBack 4 none 12 242 0 (fun sx => (nf G_X8_giveBack)) := ctr_of (by decide) gz gz ⟨rfl, rfl⟩ (fun p e s m args below meth c D ca ad sx sy A Q as M C0 hE hr hno hF => P_X8_giveBack (L_X8_giveBack C0 hE hr hno) hF)
theorem wg892 : Cond.code ⟨"WeighedHall$Sitting", "giveAway", "(I)V"⟩ prog_10_method_7_code 4 (Option.none : Option FieldType) ∈ GT := gt_mem 1012 (by decide +kernel) rfl
theorem wg889 : Cond.methodLink "WeighedHall$Sitting" 80 ⟨"WeighedHall$Sitting", "giveAway", "(I)V"⟩ ∈ GT := gt_mem 1009 (by decide +kernel) rfl
theorem wg891 : Cond.instanceMethod ⟨"WeighedHall$Sitting", "giveAway", "(I)V"⟩ ∈ GT := gt_mem 1011 (by decide +kernel) rfl
theorem ws48 : Cond.selects "WeighedHall$Sitting" ⟨"WeighedHall$Sitting", "giveAway", "(I)V"⟩ ⟨"WeighedHall$Sitting", "giveAway", "(I)V"⟩ ∈ GT := gt_mem 48 (by decide +kernel) rfl
theorem wg887 : Cond.code ⟨"WeighedHall$Sitting", "giveBack", "(I)V"⟩ prog_10_method_6_code 4 (Option.none : Option FieldType) ∈ GT := gt_mem 1007 (by decide +kernel) rfl
theorem wg884 : Cond.methodLink "WeighedHall$Sitting" 77 ⟨"WeighedHall$Sitting", "giveBack", "(I)V"⟩ ∈ GT := gt_mem 1004 (by decide +kernel) rfl
theorem wg886 : Cond.instanceMethod ⟨"WeighedHall$Sitting", "giveBack", "(I)V"⟩ ∈ GT := gt_mem 1006 (by decide +kernel) rfl
theorem ws47 : Cond.selects "WeighedHall$Sitting" ⟨"WeighedHall$Sitting", "giveBack", "(I)V"⟩ ⟨"WeighedHall$Sitting", "giveBack", "(I)V"⟩ ∈ GT := gt_mem 47 (by decide +kernel) rfl
theorem wg875 : Cond.code ⟨"WeighedHall$Sitting", "comeIn", "(I)V"⟩ prog_10_method_5_code 3 (Option.none : Option FieldType) ∈ GT := gt_mem 995 (by decide +kernel) rfl
theorem wg872 : Cond.methodLink "WeighedHall$Sitting" 73 ⟨"WeighedHall$Sitting", "comeIn", "(I)V"⟩ ∈ GT := gt_mem 992 (by decide +kernel) rfl
theorem wg874 : Cond.instanceMethod ⟨"WeighedHall$Sitting", "comeIn", "(I)V"⟩ ∈ GT := gt_mem 994 (by decide +kernel) rfl
theorem ws44 : Cond.selects "WeighedHall$Sitting" ⟨"WeighedHall$Sitting", "comeIn", "(I)V"⟩ ⟨"WeighedHall$Sitting", "comeIn", "(I)V"⟩ ∈ GT := gt_mem 44 (by decide +kernel) rfl
theorem wg901 : Cond.code ⟨"WeighedHall$Sitting", "tire", "(I)V"⟩ prog_10_method_9_code 3 (Option.none : Option FieldType) ∈ GT := gt_mem 1021 (by decide +kernel) rfl
theorem wg898 : Cond.methodLink "WeighedHall$Sitting" 86 ⟨"WeighedHall$Sitting", "tire", "(I)V"⟩ ∈ GT := gt_mem 1018 (by decide +kernel) rfl
theorem wg900 : Cond.instanceMethod ⟨"WeighedHall$Sitting", "tire", "(I)V"⟩ ∈ GT := gt_mem 1020 (by decide +kernel) rfl
theorem ws50 : Cond.selects "WeighedHall$Sitting" ⟨"WeighedHall$Sitting", "tire", "(I)V"⟩ ⟨"WeighedHall$Sitting", "tire", "(I)V"⟩ ∈ GT := gt_mem 50 (by decide +kernel) rfl
theorem wg896 : Cond.code ⟨"WeighedHall$Sitting", "weighHolders", "()V"⟩ prog_10_method_8_code 2 (Option.none : Option FieldType) ∈ GT := gt_mem 1016 (by decide +kernel) rfl
theorem wg893 : Cond.methodLink "WeighedHall$Sitting" 83 ⟨"WeighedHall$Sitting", "weighHolders", "()V"⟩ ∈ GT := gt_mem 1013 (by decide +kernel) rfl
theorem wg895 : Cond.instanceMethod ⟨"WeighedHall$Sitting", "weighHolders", "()V"⟩ ∈ GT := gt_mem 1015 (by decide +kernel) rfl
theorem ws49 : Cond.selects "WeighedHall$Sitting" ⟨"WeighedHall$Sitting", "weighHolders", "()V"⟩ ⟨"WeighedHall$Sitting", "weighHolders", "()V"⟩ ∈ GT := gt_mem 49 (by decide +kernel) rfl
theorem d_X8_goThrough_0 : decode cX8_goThrough 0 = .ok (.aload_n 0, 1) := by decide +kernel
theorem d_X8_goThrough_1 : decode cX8_goThrough 1 = .ok (.iload_n 1, 1) := by decide +kernel
theorem d_X8_goThrough_2 : decode cX8_goThrough 2 = .ok (.invokevirtual 73, 3) := by decide +kernel
theorem d_X8_goThrough_5 : decode cX8_goThrough 5 = .ok (.iload_n 2, 1) := by decide +kernel
theorem d_X8_goThrough_6 : decode cX8_goThrough 6 = .ok (.iconst (-1), 1) := by decide +kernel
theorem d_X8_goThrough_7 : decode cX8_goThrough 7 = .ok (.if_icmp .eq 13, 3) := by decide +kernel
theorem d_X8_goThrough_10 : decode cX8_goThrough 10 = .ok (.aload_n 0, 1) := by decide +kernel
theorem d_X8_goThrough_11 : decode cX8_goThrough 11 = .ok (.iload_n 2, 1) := by decide +kernel
theorem d_X8_goThrough_12 : decode cX8_goThrough 12 = .ok (.invokevirtual 77, 3) := by decide +kernel
theorem d_X8_goThrough_15 : decode cX8_goThrough 15 = .ok (.aload_n 0, 1) := by decide +kernel
theorem d_X8_goThrough_16 : decode cX8_goThrough 16 = .ok (.iload_n 2, 1) := by decide +kernel
theorem d_X8_goThrough_17 : decode cX8_goThrough 17 = .ok (.invokevirtual 80, 3) := by decide +kernel
theorem d_X8_goThrough_20 : decode cX8_goThrough 20 = .ok (.aload_n 0, 1) := by decide +kernel
theorem d_X8_goThrough_21 : decode cX8_goThrough 21 = .ok (.invokevirtual 83, 3) := by decide +kernel
theorem d_X8_goThrough_24 : decode cX8_goThrough 24 = .ok (.aload_n 0, 1) := by decide +kernel
theorem d_X8_goThrough_25 : decode cX8_goThrough 25 = .ok (.iload_n 1, 1) := by decide +kernel
theorem d_X8_goThrough_26 : decode cX8_goThrough 26 = .ok (.invokevirtual 86, 3) := by decide +kernel
theorem d_X8_goThrough_29 : decode cX8_goThrough 29 = .ok (.return_, 1) := by decide +kernel
set_option maxRecDepth 100000 in
theorem L_X8_goThrough {p : Program} {l : Launch} {e : Env} {s : State} {m : MethodId} {args : Array Value} {below : List Frame} {meth : Method} {c : Code} {D : va_G} {ca : Nat → ClassId} {ad sx sy : Nat → Nat} {A : Nat → Prop} {Q : QT} (C0 : CX p s m args meth c cX8_goThrough 3 yX8_goThrough.cls D ca ad A) (hE : EX sx sy A s s.heap) (hr : meth.sig.returnType = none) (hno : ∀ x ∈ c.exceptionTable.toList, False) : R_X8_goThrough (JW p l e { frames := 13, cells := 0, slots := 6 * 0, locals := 265 } s m args below meth c 3 D ca ad A (vx_MQ below (Qn D ca ad A Q) (Qx D ca ad A Q) args s 0 (6 * 0) A) gz gz true) Q := ⟨s_aln C0 (d_X8_goThrough_0) hgz (s_iln C0 (d_X8_goThrough_1) hgz (s_callV C0 hE (c_X8_comeIn l) wg875 wg872 wg874 ws44 wg7 ⟨by decide, by decide⟩ (by decide +kernel) (c0 := 8) rfl ⟨by decide, by decide⟩ ⟨by decide, by decide⟩ (d_X8_goThrough_2) (fun x hx => (hno x hx).elim) ⟨by decide, by decide⟩ ⟨by decide, by decide⟩ (s_iln C0 (d_X8_goThrough_5) hgz (s_ic C0 (d_X8_goThrough_6) hgz (s_ceq C0 (d_X8_goThrough_7) (by decide) hgz hgz (fun _ _ _ h => h) (s_aln C0 (d_X8_goThrough_10) hgz (s_iln C0 (d_X8_goThrough_11) hgz (s_callV C0 hE (c_X8_giveBack l) wg887 wg884 wg886 ws47 wg7 ⟨by decide, by decide⟩ (by decide +kernel) (c0 := 8) rfl ⟨by decide, by decide⟩ ⟨by decide, by decide⟩ (d_X8_goThrough_12) (fun x hx => (hno x hx).elim) ⟨by decide, by decide⟩ ⟨by decide, by decide⟩ (s_aln C0 (d_X8_goThrough_15) hgz (s_iln C0 (d_X8_goThrough_16) hgz (s_callV C0 hE (c_X8_giveAway l) wg892 wg889 wg891 ws48 wg7 ⟨by decide, by decide⟩ (by decide +kernel) (c0 := 8) rfl ⟨by decide, by decide⟩ ⟨by decide, by decide⟩ (d_X8_goThrough_17) (fun x hx => (hno x hx).elim) ⟨by decide, by decide⟩ ⟨by decide, by decide⟩ (fun _ _ _ h => h)))))))) (okn rfl))))),
  s_aln C0 (d_X8_goThrough_20) hgz (s_callV C0 hE (c_X8_weighHolders l) wg896 wg893 wg895 ws49 wg7 ⟨by decide, by decide⟩ (by decide +kernel) (c0 := 8) rfl ⟨by decide, by decide⟩ ⟨by decide, by decide⟩ (d_X8_goThrough_21) (fun x hx => (hno x hx).elim) ⟨by decide, by decide⟩ ⟨by decide, by decide⟩ (s_aln C0 (d_X8_goThrough_24) hgz (s_iln C0 (d_X8_goThrough_25) hgz (s_callV C0 hE (c_X8_tire l) wg901 wg898 wg900 ws50 wg7 ⟨by decide, by decide⟩ (by decide +kernel) (c0 := 8) rfl ⟨by decide, by decide⟩ ⟨by decide, by decide⟩ (d_X8_goThrough_26) (fun x hx => (hno x hx).elim) ⟨by decide, by decide⟩ ⟨by decide, by decide⟩ (s_rv C0 hr (d_X8_goThrough_29) ⟨by decide, by decide⟩)))))⟩
theorem c_X8_goThrough (l : Launch) : Ctr l yX8_goThrough cX8_goThrough 3 none 13 265 0 (fun sx => (nf G_X8_goThrough)) := ctr_of (by decide) gz gz ⟨rfl, rfl⟩ (fun p e s m args below meth c D ca ad sx sy A Q as M C0 hE hr hno hF => P_X8_goThrough (L_X8_goThrough C0 hE hr hno) hF)
theorem wg112 : Cond.fieldLink "WeighedHall$Plan" 49 "WeighedHall$Plan" "doors" "I" ∈ GT := gt_mem 232 (by decide +kernel) rfl
theorem wg105 : Cond.fieldLink "WeighedHall$Plan" 24 "WeighedHall$Plan" "door" "[I" ∈ GT := gt_mem 225 (by decide +kernel) rfl
theorem wg867 : Cond.code ⟨"WeighedHall", "cut", "(II)I"⟩ prog_1_method_42_code 2 (Option.some .int) ∈ GT := gt_mem 987 (by decide +kernel) rfl
theorem wn865 : Cond.methodLinkNest "WeighedHall$Plan" 122 ⟨"WeighedHall", "cut", "(II)I"⟩ "WeighedHall" ∈ NT := nt_mem 865 (by decide +kernel) rfl
theorem wg866 : Cond.static ⟨"WeighedHall", "cut", "(II)I"⟩ ∈ GT := gt_mem 986 (by decide +kernel) rfl
theorem wg114 : Cond.fieldLink "WeighedHall$Plan" 30 "WeighedHall$Plan" "width" "[I" ∈ GT := gt_mem 234 (by decide +kernel) rfl
theorem wg98 : Cond.fieldLink "WeighedHall$Plan" 21 "WeighedHall$Plan" "weight" "[I" ∈ GT := gt_mem 218 (by decide +kernel) rfl
theorem d_X6_passage_0 : decode cX6_passage 0 = .ok (.aload_n 0, 1) := by decide +kernel
theorem d_X6_passage_1 : decode cX6_passage 1 = .ok (.getfield 24, 3) := by decide +kernel
theorem d_X6_passage_4 : decode cX6_passage 4 = .ok (.iload_n 1, 1) := by decide +kernel
theorem d_X6_passage_5 : decode cX6_passage 5 = .ok (.iaload, 1) := by decide +kernel
theorem d_X6_passage_6 : decode cX6_passage 6 = .ok (.istore_n 2, 1) := by decide +kernel
theorem d_X6_passage_7 : decode cX6_passage 7 = .ok (.iload_n 2, 1) := by decide +kernel
theorem d_X6_passage_8 : decode cX6_passage 8 = .ok (.ifCond .lt 11, 3) := by decide +kernel
theorem d_X6_passage_11 : decode cX6_passage 11 = .ok (.iload_n 2, 1) := by decide +kernel
theorem d_X6_passage_12 : decode cX6_passage 12 = .ok (.aload_n 0, 1) := by decide +kernel
theorem d_X6_passage_13 : decode cX6_passage 13 = .ok (.getfield 49, 3) := by decide +kernel
theorem d_X6_passage_16 : decode cX6_passage 16 = .ok (.if_icmp .lt 5, 3) := by decide +kernel
theorem d_X6_passage_19 : decode cX6_passage 19 = .ok (.iconst 0, 1) := by decide +kernel
theorem d_X6_passage_20 : decode cX6_passage 20 = .ok (.ireturn, 1) := by decide +kernel
theorem d_X6_passage_21 : decode cX6_passage 21 = .ok (.aload_n 0, 1) := by decide +kernel
theorem d_X6_passage_22 : decode cX6_passage 22 = .ok (.getfield 21, 3) := by decide +kernel
theorem d_X6_passage_25 : decode cX6_passage 25 = .ok (.iload_n 1, 1) := by decide +kernel
theorem d_X6_passage_26 : decode cX6_passage 26 = .ok (.iaload, 1) := by decide +kernel
theorem d_X6_passage_27 : decode cX6_passage 27 = .ok (.aload_n 0, 1) := by decide +kernel
theorem d_X6_passage_28 : decode cX6_passage 28 = .ok (.getfield 30, 3) := by decide +kernel
theorem d_X6_passage_31 : decode cX6_passage 31 = .ok (.iload_n 2, 1) := by decide +kernel
theorem d_X6_passage_32 : decode cX6_passage 32 = .ok (.iaload, 1) := by decide +kernel
theorem d_X6_passage_33 : decode cX6_passage 33 = .ok (.iadd, 1) := by decide +kernel
theorem d_X6_passage_34 : decode cX6_passage 34 = .ok (.iconst 1, 1) := by decide +kernel
theorem d_X6_passage_35 : decode cX6_passage 35 = .ok (.isub, 1) := by decide +kernel
theorem d_X6_passage_36 : decode cX6_passage 36 = .ok (.aload_n 0, 1) := by decide +kernel
theorem d_X6_passage_37 : decode cX6_passage 37 = .ok (.getfield 30, 3) := by decide +kernel
theorem d_X6_passage_40 : decode cX6_passage 40 = .ok (.iload_n 2, 1) := by decide +kernel
theorem d_X6_passage_41 : decode cX6_passage 41 = .ok (.iaload, 1) := by decide +kernel
theorem d_X6_passage_42 : decode cX6_passage 42 = .ok (.invokestatic 122, 3) := by decide +kernel
theorem d_X6_passage_45 : decode cX6_passage 45 = .ok (.ireturn, 1) := by decide +kernel
set_option maxRecDepth 100000 in
theorem L_X6_passage {p : Program} {l : Launch} {e : Env} {s : State} {m : MethodId} {args : Array Value} {below : List Frame} {meth : Method} {c : Code} {D : va_G} {ca : Nat → ClassId} {ad sx sy : Nat → Nat} {A : Nat → Prop} {Q : QT} (C0 : CX p s m args meth c cX6_passage 3 yX6_passage.cls D ca ad A) (hE : EX sx sy A s s.heap) (hr : meth.sig.returnType = (some .int)) (hno : ∀ x ∈ c.exceptionTable.toList, False) : R_X6_passage (JW p l e { frames := 11, cells := 0, slots := 6 * 0, locals := 221 } s m args below meth c 3 D ca ad A (vx_MQ below (Qn D ca ad A Q) (Qx D ca ad A Q) args s 0 (6 * 0) A) gz gz true) Q := ⟨s_aln C0 (d_X6_passage_0) hgz (s_gr C0 (j := 6) (c0 := 6) rfl gX6 (by decide) rfl rfl wg105 (d_X6_passage_1) hgz (s_iln C0 (d_X6_passage_4) hgz (s_ia C0 (d_X6_passage_5) hgz (s_isn C0 (d_X6_passage_6) hgz (s_iln C0 (d_X6_passage_7) hgz (s_zlt C0 (d_X6_passage_8) (by decide) hgz hgz (fun _ _ _ h => h) (s_iln C0 (d_X6_passage_11) hgz (s_aln C0 (d_X6_passage_12) hgz (s_gi C0 (j := 8) (c0 := 6) rfl gX6 (by decide) rfl (by decide) wg112 (d_X6_passage_13) hgz (s_clt C0 (d_X6_passage_16) (by decide) hgz hgz (fun _ _ _ h => h) (fun _ _ _ h => h))))))))))),
  s_ic C0 (d_X6_passage_19) hgz (s_ri C0 hr (d_X6_passage_20) ⟨by decide, by decide⟩) (okn rfl),
  s_aln C0 (d_X6_passage_21) hgz (s_gr C0 (j := 5) (c0 := 6) rfl gX6 (by decide) rfl rfl wg98 (d_X6_passage_22) hgz (s_iln C0 (d_X6_passage_25) hgz (s_ia C0 (d_X6_passage_26) hgz (s_aln C0 (d_X6_passage_27) hgz (s_gr C0 (j := 9) (c0 := 6) rfl gX6 (by decide) rfl rfl wg114 (d_X6_passage_28) hgz (s_iln C0 (d_X6_passage_31) hgz (s_ia C0 (d_X6_passage_32) hgz (s_add C0 (d_X6_passage_33) hgz (s_ic C0 (d_X6_passage_34) hgz (s_sub C0 (d_X6_passage_35) hgz (s_aln C0 (d_X6_passage_36) hgz (s_gr C0 (j := 9) (c0 := 6) rfl gX6 (by decide) rfl rfl wg114 (d_X6_passage_37) hgz (s_iln C0 (d_X6_passage_40) hgz (s_ia C0 (d_X6_passage_41) hgz (s_callSN C0 hE (c_X10_cut l) wg867 wn865 wg866 wg1 ⟨by decide, by decide⟩ (by decide +kernel) ⟨by decide, by decide⟩ ⟨by decide, by decide⟩ (d_X6_passage_42) (fun x hx => (hno x hx).elim) ⟨by decide, by decide⟩ ⟨by decide, by decide⟩ (s_ri C0 hr (d_X6_passage_45) ⟨by decide, by decide⟩))))))) (okn rfl))))))))))⟩
theorem c_X6_passage (l : Launch) : Ctr l yX6_passage cX6_passage 3 (some .int) 11 221 0 (fun sx => (nf G_X6_passage)) := ctr_of (by decide) gz gz ⟨rfl, rfl⟩ (fun p e s m args below meth c D ca ad sx sy A Q as M C0 hE hr hno hF => P_X6_passage (L_X6_passage C0 hE hr hno) hF)
theorem wg857 : Cond.constant "WeighedHall$Plan" 125 1000000 ∈ GT := gt_mem 977 (by decide +kernel) rfl
theorem wg864 : Cond.code ⟨"WeighedHall$Plan", "passage", "(I)I"⟩ prog_8_method_18_code 3 (Option.some .int) ∈ GT := gt_mem 984 (by decide +kernel) rfl
theorem wg861 : Cond.methodLink "WeighedHall$Plan" 131 ⟨"WeighedHall$Plan", "passage", "(I)I"⟩ ∈ GT := gt_mem 981 (by decide +kernel) rfl
theorem wg863 : Cond.instanceMethod ⟨"WeighedHall$Plan", "passage", "(I)I"⟩ ∈ GT := gt_mem 983 (by decide +kernel) rfl
theorem ws42 : Cond.selects "WeighedHall$Plan" ⟨"WeighedHall$Plan", "passage", "(I)I"⟩ ⟨"WeighedHall$Plan", "passage", "(I)I"⟩ ∈ GT := gt_mem 42 (by decide +kernel) rfl
theorem wg860 : Cond.code ⟨"java/lang/Math", "max", "(II)I"⟩ prog_20_method_65_code 2 (Option.some .int) ∈ GT := gt_mem 980 (by decide +kernel) rfl
theorem wg17 : Cond.initialized "java/lang/Math" ∈ GT := gt_mem 137 (by decide +kernel) rfl
theorem wg858 : Cond.methodLink "WeighedHall$Plan" 126 ⟨"java/lang/Math", "max", "(II)I"⟩ ∈ GT := gt_mem 978 (by decide +kernel) rfl
theorem wg859 : Cond.static ⟨"java/lang/Math", "max", "(II)I"⟩ ∈ GT := gt_mem 979 (by decide +kernel) rfl
theorem wg110 : Cond.fieldLink "WeighedHall$Plan" 27 "WeighedHall$Plan" "start" "[I" ∈ GT := gt_mem 230 (by decide +kernel) rfl
theorem d_X6_findThrough_0 : decode cX6_findThrough 0 = .ok (.iconst 0, 1) := by decide +kernel
theorem d_X6_findThrough_1 : decode cX6_findThrough 1 = .ok (.istore 4, 2) := by decide +kernel
theorem d_X6_findThrough_3 : decode cX6_findThrough 3 = .ok (.iload 4, 2) := by decide +kernel
theorem d_X6_findThrough_5 : decode cX6_findThrough 5 = .ok (.aload_n 3, 1) := by decide +kernel
theorem d_X6_findThrough_6 : decode cX6_findThrough 6 = .ok (.arraylength, 1) := by decide +kernel
theorem d_X6_findThrough_7 : decode cX6_findThrough 7 = .ok (.if_icmp .ge 14, 3) := by decide +kernel
theorem d_X6_findThrough_10 : decode cX6_findThrough 10 = .ok (.aload_n 3, 1) := by decide +kernel
theorem d_X6_findThrough_11 : decode cX6_findThrough 11 = .ok (.iload 4, 2) := by decide +kernel
theorem d_X6_findThrough_13 : decode cX6_findThrough 13 = .ok (.iconst 0, 1) := by decide +kernel
theorem d_X6_findThrough_14 : decode cX6_findThrough 14 = .ok (.iastore, 1) := by decide +kernel
theorem d_X6_findThrough_15 : decode cX6_findThrough 15 = .ok (.iinc 4 1, 3) := by decide +kernel
theorem d_X6_findThrough_18 : decode cX6_findThrough 18 = .ok (.goto (-15), 3) := by decide +kernel
theorem d_X6_findThrough_21 : decode cX6_findThrough 21 = .ok (.iconst 0, 1) := by decide +kernel
theorem d_X6_findThrough_22 : decode cX6_findThrough 22 = .ok (.istore 4, 2) := by decide +kernel
theorem d_X6_findThrough_24 : decode cX6_findThrough 24 = .ok (.iload 4, 2) := by decide +kernel
theorem d_X6_findThrough_26 : decode cX6_findThrough 26 = .ok (.aload_n 0, 1) := by decide +kernel
theorem d_X6_findThrough_27 : decode cX6_findThrough 27 = .ok (.getfield 46, 3) := by decide +kernel
theorem d_X6_findThrough_30 : decode cX6_findThrough 30 = .ok (.if_icmp .ge 93, 3) := by decide +kernel
theorem d_X6_findThrough_33 : decode cX6_findThrough 33 = .ok (.iload 4, 2) := by decide +kernel
theorem d_X6_findThrough_35 : decode cX6_findThrough 35 = .ok (.aload_n 1, 1) := by decide +kernel
theorem d_X6_findThrough_36 : decode cX6_findThrough 36 = .ok (.arraylength, 1) := by decide +kernel
theorem d_X6_findThrough_37 : decode cX6_findThrough 37 = .ok (.if_icmp .ge 86, 3) := by decide +kernel
theorem d_X6_findThrough_40 : decode cX6_findThrough 40 = .ok (.aload_n 0, 1) := by decide +kernel
theorem d_X6_findThrough_41 : decode cX6_findThrough 41 = .ok (.getfield 24, 3) := by decide +kernel
theorem d_X6_findThrough_44 : decode cX6_findThrough 44 = .ok (.iload 4, 2) := by decide +kernel
theorem d_X6_findThrough_46 : decode cX6_findThrough 46 = .ok (.iaload, 1) := by decide +kernel
theorem d_X6_findThrough_47 : decode cX6_findThrough 47 = .ok (.istore 5, 2) := by decide +kernel
theorem d_X6_findThrough_49 : decode cX6_findThrough 49 = .ok (.iload 4, 2) := by decide +kernel
theorem d_X6_findThrough_51 : decode cX6_findThrough 51 = .ok (.iload_n 2, 1) := by decide +kernel
theorem d_X6_findThrough_52 : decode cX6_findThrough 52 = .ok (.if_icmp .ne 12, 3) := by decide +kernel
theorem d_X6_findThrough_55 : decode cX6_findThrough 55 = .ok (.aload_n 1, 1) := by decide +kernel
theorem d_X6_findThrough_56 : decode cX6_findThrough 56 = .ok (.iload 4, 2) := by decide +kernel
theorem d_X6_findThrough_58 : decode cX6_findThrough 58 = .ok (.ldc 125, 2) := by decide +kernel
theorem d_X6_findThrough_60 : decode cX6_findThrough 60 = .ok (.iastore, 1) := by decide +kernel
theorem d_X6_findThrough_61 : decode cX6_findThrough 61 = .ok (.goto 56, 3) := by decide +kernel
theorem d_X6_findThrough_64 : decode cX6_findThrough 64 = .ok (.iload 5, 2) := by decide +kernel
theorem d_X6_findThrough_66 : decode cX6_findThrough 66 = .ok (.ifCond .lt 10, 3) := by decide +kernel
theorem d_X6_findThrough_69 : decode cX6_findThrough 69 = .ok (.iload 5, 2) := by decide +kernel
theorem d_X6_findThrough_71 : decode cX6_findThrough 71 = .ok (.aload_n 3, 1) := by decide +kernel
theorem d_X6_findThrough_72 : decode cX6_findThrough 72 = .ok (.arraylength, 1) := by decide +kernel
theorem d_X6_findThrough_73 : decode cX6_findThrough 73 = .ok (.if_icmp .lt 11, 3) := by decide +kernel
theorem d_X6_findThrough_76 : decode cX6_findThrough 76 = .ok (.aload_n 1, 1) := by decide +kernel
theorem d_X6_findThrough_77 : decode cX6_findThrough 77 = .ok (.iload 4, 2) := by decide +kernel
theorem d_X6_findThrough_79 : decode cX6_findThrough 79 = .ok (.iconst 0, 1) := by decide +kernel
theorem d_X6_findThrough_80 : decode cX6_findThrough 80 = .ok (.iastore, 1) := by decide +kernel
theorem d_X6_findThrough_81 : decode cX6_findThrough 81 = .ok (.goto 36, 3) := by decide +kernel
theorem d_X6_findThrough_84 : decode cX6_findThrough 84 = .ok (.aload_n 1, 1) := by decide +kernel
theorem d_X6_findThrough_85 : decode cX6_findThrough 85 = .ok (.iload 4, 2) := by decide +kernel
theorem d_X6_findThrough_87 : decode cX6_findThrough 87 = .ok (.aload_n 0, 1) := by decide +kernel
theorem d_X6_findThrough_88 : decode cX6_findThrough 88 = .ok (.getfield 27, 3) := by decide +kernel
theorem d_X6_findThrough_91 : decode cX6_findThrough 91 = .ok (.iload 4, 2) := by decide +kernel
theorem d_X6_findThrough_93 : decode cX6_findThrough 93 = .ok (.iaload, 1) := by decide +kernel
theorem d_X6_findThrough_94 : decode cX6_findThrough 94 = .ok (.aload_n 3, 1) := by decide +kernel
theorem d_X6_findThrough_95 : decode cX6_findThrough 95 = .ok (.iload 5, 2) := by decide +kernel
theorem d_X6_findThrough_97 : decode cX6_findThrough 97 = .ok (.iaload, 1) := by decide +kernel
theorem d_X6_findThrough_98 : decode cX6_findThrough 98 = .ok (.invokestatic 126, 3) := by decide +kernel
theorem d_X6_findThrough_101 : decode cX6_findThrough 101 = .ok (.aload_n 0, 1) := by decide +kernel
theorem d_X6_findThrough_102 : decode cX6_findThrough 102 = .ok (.iload 4, 2) := by decide +kernel
theorem d_X6_findThrough_104 : decode cX6_findThrough 104 = .ok (.invokevirtual 131, 3) := by decide +kernel
theorem d_X6_findThrough_107 : decode cX6_findThrough 107 = .ok (.iadd, 1) := by decide +kernel
theorem d_X6_findThrough_108 : decode cX6_findThrough 108 = .ok (.iastore, 1) := by decide +kernel
theorem d_X6_findThrough_109 : decode cX6_findThrough 109 = .ok (.aload_n 3, 1) := by decide +kernel
theorem d_X6_findThrough_110 : decode cX6_findThrough 110 = .ok (.iload 5, 2) := by decide +kernel
theorem d_X6_findThrough_112 : decode cX6_findThrough 112 = .ok (.aload_n 1, 1) := by decide +kernel
theorem d_X6_findThrough_113 : decode cX6_findThrough 113 = .ok (.iload 4, 2) := by decide +kernel
theorem d_X6_findThrough_115 : decode cX6_findThrough 115 = .ok (.iaload, 1) := by decide +kernel
theorem d_X6_findThrough_116 : decode cX6_findThrough 116 = .ok (.iastore, 1) := by decide +kernel
theorem d_X6_findThrough_117 : decode cX6_findThrough 117 = .ok (.iinc 4 1, 3) := by decide +kernel
theorem d_X6_findThrough_120 : decode cX6_findThrough 120 = .ok (.goto (-96), 3) := by decide +kernel
theorem d_X6_findThrough_123 : decode cX6_findThrough 123 = .ok (.return_, 1) := by decide +kernel
set_option maxRecDepth 100000 in
theorem L_X6_findThrough {p : Program} {l : Launch} {e : Env} {s : State} {m : MethodId} {args : Array Value} {below : List Frame} {meth : Method} {c : Code} {D : va_G} {ca : Nat → ClassId} {ad sx sy : Nat → Nat} {A : Nat → Prop} {Q : QT} (C0 : CX p s m args meth c cX6_findThrough 6 yX6_findThrough.cls D ca ad A) (hE : EX sx sy A s s.heap) (hr : meth.sig.returnType = none) (hno : ∀ x ∈ c.exceptionTable.toList, False) : R_X6_findThrough (JW p l e { frames := 12, cells := 0, slots := 6 * 0, locals := 243 } s m args below meth c 6 D ca ad A (vx_MQ below (Qn D ca ad A Q) (Qx D ca ad A Q) args s 0 (6 * 0) A) gz gz true) Q := ⟨s_ic C0 (d_X6_findThrough_0) hgz (s_is C0 (d_X6_findThrough_1) hgz (fun _ _ _ h => h)) (okn rfl),
  s_il C0 (d_X6_findThrough_3) hgz (s_aln C0 (d_X6_findThrough_5) hgz (s_len C0 (d_X6_findThrough_6) hgz (s_cge C0 (d_X6_findThrough_7) (by decide) hgz hgz (fun _ _ _ h => h) (s_aln C0 (d_X6_findThrough_10) hgz (s_il C0 (d_X6_findThrough_11) hgz (s_ic C0 (d_X6_findThrough_13) hgz (s_iax C0 (d_X6_findThrough_14) hgz (s_inc C0 (d_X6_findThrough_15) hgz (s_goto C0 (tgt := 3) (d_X6_findThrough_18) (by decide) hgz (fun _ _ _ h => h)))) (okn rfl))))))),
  s_ic C0 (d_X6_findThrough_21) hgz (s_is C0 (d_X6_findThrough_22) hgz (fun _ _ _ h => h)) (okn rfl),
  s_il C0 (d_X6_findThrough_24) hgz (s_aln C0 (d_X6_findThrough_26) hgz (s_gi C0 (j := 3) (c0 := 6) rfl gX6 (by decide) rfl (by decide) wg84 (d_X6_findThrough_27) hgz (s_cge C0 (d_X6_findThrough_30) (by decide) hgz hgz (fun _ _ _ h => h) (s_il C0 (d_X6_findThrough_33) hgz (s_aln C0 (d_X6_findThrough_35) hgz (s_len C0 (d_X6_findThrough_36) hgz (s_cge C0 (d_X6_findThrough_37) (by decide) hgz hgz (fun _ _ _ h => h) (s_aln C0 (d_X6_findThrough_40) hgz (s_gr C0 (j := 6) (c0 := 6) rfl gX6 (by decide) rfl rfl wg105 (d_X6_findThrough_41) hgz (s_il C0 (d_X6_findThrough_44) hgz (s_ia C0 (d_X6_findThrough_46) hgz (s_is C0 (d_X6_findThrough_47) hgz (s_il C0 (d_X6_findThrough_49) hgz (s_iln C0 (d_X6_findThrough_51) hgz (s_cne C0 (d_X6_findThrough_52) (by decide) hgz hgz (fun _ _ _ h => h) (s_aln C0 (d_X6_findThrough_55) hgz (s_il C0 (d_X6_findThrough_56) hgz (s_ldc C0 (n := 1000000) wg857 (d_X6_findThrough_58) hgz (s_iax C0 (d_X6_findThrough_60) hgz (s_goto C0 (tgt := 117) (d_X6_findThrough_61) (by decide) hgz (fun _ _ _ h => h))) (okn rfl))))))))))))))))))),
  s_il C0 (d_X6_findThrough_64) hgz (s_zlt C0 (d_X6_findThrough_66) (by decide) hgz hgz (fun _ _ _ h => h) (s_il C0 (d_X6_findThrough_69) hgz (s_aln C0 (d_X6_findThrough_71) hgz (s_len C0 (d_X6_findThrough_72) hgz (s_clt C0 (d_X6_findThrough_73) (by decide) hgz hgz (fun _ _ _ h => h) (fun _ _ _ h => h)))))),
  s_aln C0 (d_X6_findThrough_76) hgz (s_il C0 (d_X6_findThrough_77) hgz (s_ic C0 (d_X6_findThrough_79) hgz (s_iax C0 (d_X6_findThrough_80) hgz (s_goto C0 (tgt := 117) (d_X6_findThrough_81) (by decide) hgz (fun _ _ _ h => h))) (okn rfl))),
  s_aln C0 (d_X6_findThrough_84) hgz (s_il C0 (d_X6_findThrough_85) hgz (s_aln C0 (d_X6_findThrough_87) hgz (s_gr C0 (j := 7) (c0 := 6) rfl gX6 (by decide) rfl rfl wg110 (d_X6_findThrough_88) hgz (s_il C0 (d_X6_findThrough_91) hgz (s_ia C0 (d_X6_findThrough_93) hgz (s_aln C0 (d_X6_findThrough_94) hgz (s_il C0 (d_X6_findThrough_95) hgz (s_ia C0 (d_X6_findThrough_97) hgz (s_callS C0 hE (c_J9_max_7cf53 l) wg860 wg858 wg859 wg17 ⟨by decide, by decide⟩ (by decide +kernel) ⟨by decide, by decide⟩ ⟨by decide, by decide⟩ (d_X6_findThrough_98) (fun x hx => (hno x hx).elim) ⟨by decide, by decide⟩ ⟨by decide, by decide⟩ (s_aln C0 (d_X6_findThrough_101) hgz (s_il C0 (d_X6_findThrough_102) hgz (s_callV C0 hE (c_X6_passage l) wg864 wg861 wg863 ws42 wg3 ⟨by decide, by decide⟩ (by decide +kernel) (c0 := 6) rfl ⟨by decide, by decide⟩ ⟨by decide, by decide⟩ (d_X6_findThrough_104) (fun x hx => (hno x hx).elim) ⟨by decide, by decide⟩ ⟨by decide, by decide⟩ (s_add C0 (d_X6_findThrough_107) hgz (s_iax C0 (d_X6_findThrough_108) hgz (s_aln C0 (d_X6_findThrough_109) hgz (s_il C0 (d_X6_findThrough_110) hgz (s_aln C0 (d_X6_findThrough_112) hgz (s_il C0 (d_X6_findThrough_113) hgz (s_ia C0 (d_X6_findThrough_115) hgz (s_iax C0 (d_X6_findThrough_116) hgz (fun _ _ _ h => h))))))))))))))))))))),
  s_inc C0 (d_X6_findThrough_117) hgz (s_goto C0 (tgt := 24) (d_X6_findThrough_120) (by decide) hgz (fun _ _ _ h => h)),
  s_rv C0 hr (d_X6_findThrough_123) ⟨by decide, by decide⟩⟩
theorem c_X6_findThrough (l : Launch) : Ctr l yX6_findThrough cX6_findThrough 6 none 12 243 0 (fun sx => (nf G_X6_findThrough)) := ctr_of (by decide) gz gz ⟨rfl, rfl⟩ (fun p e s m args below meth c D ca ad sx sy A Q as M C0 hE hr hno hF => P_X6_findThrough (L_X6_findThrough C0 hE hr hno) hF)
theorem wg856 : Cond.code ⟨"WeighedHall$Plan", "findThrough", "([II[I)V"⟩ prog_8_method_19_code 6 (Option.none : Option FieldType) ∈ GT := gt_mem 976 (by decide +kernel) rfl
theorem wn853 : Cond.methodLinkNest "WeighedHall$Sitting" 47 ⟨"WeighedHall$Plan", "findThrough", "([II[I)V"⟩ "WeighedHall" ∈ NT := nt_mem 853 (by decide +kernel) rfl
theorem wg855 : Cond.instanceMethod ⟨"WeighedHall$Plan", "findThrough", "([II[I)V"⟩ ∈ GT := gt_mem 975 (by decide +kernel) rfl
theorem ws41 : Cond.selects "WeighedHall$Plan" ⟨"WeighedHall$Plan", "findThrough", "([II[I)V"⟩ ⟨"WeighedHall$Plan", "findThrough", "([II[I)V"⟩ ∈ GT := gt_mem 41 (by decide +kernel) rfl
theorem wg249 : Cond.fieldLink "WeighedHall$Sitting" 44 "WeighedHall$Sitting" "doorFree" "[I" ∈ GT := gt_mem 369 (by decide +kernel) rfl
theorem wn106 : Cond.fieldLinkNest "WeighedHall$Sitting" 55 "WeighedHall$Plan" "door" "[I" "WeighedHall" ∈ NT := nt_mem 106 (by decide +kernel) rfl
theorem wn81 : Cond.fieldLinkNest "WeighedHall$Sitting" 64 "WeighedHall$Plan" "arm" "[I" "WeighedHall" ∈ NT := nt_mem 81 (by decide +kernel) rfl
theorem d_X8_begin_0 : decode cX8_begin 0 = .ok (.aload_n 0, 1) := by decide +kernel
theorem d_X8_begin_1 : decode cX8_begin 1 = .ok (.aload_n 1, 1) := by decide +kernel
theorem d_X8_begin_2 : decode cX8_begin 2 = .ok (.putfield 12, 3) := by decide +kernel
theorem d_X8_begin_5 : decode cX8_begin 5 = .ok (.aload_n 0, 1) := by decide +kernel
theorem d_X8_begin_6 : decode cX8_begin 6 = .ok (.aload_n 2, 1) := by decide +kernel
theorem d_X8_begin_7 : decode cX8_begin 7 = .ok (.putfield 21, 3) := by decide +kernel
theorem d_X8_begin_10 : decode cX8_begin 10 = .ok (.aload_n 0, 1) := by decide +kernel
theorem d_X8_begin_11 : decode cX8_begin 11 = .ok (.getfield 12, 3) := by decide +kernel
theorem d_X8_begin_14 : decode cX8_begin 14 = .ok (.aload_n 0, 1) := by decide +kernel
theorem d_X8_begin_15 : decode cX8_begin 15 = .ok (.getfield 29, 3) := by decide +kernel
theorem d_X8_begin_18 : decode cX8_begin 18 = .ok (.iload_n 3, 1) := by decide +kernel
theorem d_X8_begin_19 : decode cX8_begin 19 = .ok (.aload_n 0, 1) := by decide +kernel
theorem d_X8_begin_20 : decode cX8_begin 20 = .ok (.getfield 44, 3) := by decide +kernel
theorem d_X8_begin_23 : decode cX8_begin 23 = .ok (.invokevirtual 47, 3) := by decide +kernel
theorem d_X8_begin_26 : decode cX8_begin 26 = .ok (.iconst 0, 1) := by decide +kernel
theorem d_X8_begin_27 : decode cX8_begin 27 = .ok (.istore 4, 2) := by decide +kernel
theorem d_X8_begin_29 : decode cX8_begin 29 = .ok (.iload 4, 2) := by decide +kernel
theorem d_X8_begin_31 : decode cX8_begin 31 = .ok (.aload_n 0, 1) := by decide +kernel
theorem d_X8_begin_32 : decode cX8_begin 32 = .ok (.getfield 12, 3) := by decide +kernel
theorem d_X8_begin_35 : decode cX8_begin 35 = .ok (.getfield 51, 3) := by decide +kernel
theorem d_X8_begin_38 : decode cX8_begin 38 = .ok (.if_icmp .ge 71, 3) := by decide +kernel
theorem d_X8_begin_41 : decode cX8_begin 41 = .ok (.aload_n 0, 1) := by decide +kernel
theorem d_X8_begin_42 : decode cX8_begin 42 = .ok (.getfield 12, 3) := by decide +kernel
theorem d_X8_begin_45 : decode cX8_begin 45 = .ok (.getfield 55, 3) := by decide +kernel
theorem d_X8_begin_48 : decode cX8_begin 48 = .ok (.iload 4, 2) := by decide +kernel
theorem d_X8_begin_50 : decode cX8_begin 50 = .ok (.iaload, 1) := by decide +kernel
theorem d_X8_begin_51 : decode cX8_begin 51 = .ok (.iconst (-1), 1) := by decide +kernel
theorem d_X8_begin_52 : decode cX8_begin 52 = .ok (.if_icmp .ne 13, 3) := by decide +kernel
theorem d_X8_begin_55 : decode cX8_begin 55 = .ok (.iload 4, 2) := by decide +kernel
theorem d_X8_begin_57 : decode cX8_begin 57 = .ok (.iload_n 3, 1) := by decide +kernel
theorem d_X8_begin_58 : decode cX8_begin 58 = .ok (.if_icmp .eq 7, 3) := by decide +kernel
theorem d_X8_begin_61 : decode cX8_begin 61 = .ok (.iconst 1, 1) := by decide +kernel
theorem d_X8_begin_62 : decode cX8_begin 62 = .ok (.goto 4, 3) := by decide +kernel
theorem d_X8_begin_65 : decode cX8_begin 65 = .ok (.iconst 0, 1) := by decide +kernel
theorem d_X8_begin_66 : decode cX8_begin 66 = .ok (.istore 5, 2) := by decide +kernel
theorem d_X8_begin_68 : decode cX8_begin 68 = .ok (.aload_n 0, 1) := by decide +kernel
theorem d_X8_begin_69 : decode cX8_begin 69 = .ok (.getfield 25, 3) := by decide +kernel
theorem d_X8_begin_72 : decode cX8_begin 72 = .ok (.iload 4, 2) := by decide +kernel
theorem d_X8_begin_74 : decode cX8_begin 74 = .ok (.iload 5, 2) := by decide +kernel
theorem d_X8_begin_76 : decode cX8_begin 76 = .ok (.ifCond .eq 16, 3) := by decide +kernel
theorem d_X8_begin_79 : decode cX8_begin 79 = .ok (.aload_n 0, 1) := by decide +kernel
theorem d_X8_begin_80 : decode cX8_begin 80 = .ok (.getfield 12, 3) := by decide +kernel
theorem d_X8_begin_83 : decode cX8_begin 83 = .ok (.getfield 58, 3) := by decide +kernel
theorem d_X8_begin_86 : decode cX8_begin 86 = .ok (.iload 4, 2) := by decide +kernel
theorem d_X8_begin_88 : decode cX8_begin 88 = .ok (.iaload, 1) := by decide +kernel
theorem d_X8_begin_89 : decode cX8_begin 89 = .ok (.goto 5, 3) := by decide +kernel
theorem d_X8_begin_92 : decode cX8_begin 92 = .ok (.bipush (-2), 2) := by decide +kernel
theorem d_X8_begin_94 : decode cX8_begin 94 = .ok (.iastore, 1) := by decide +kernel
theorem d_X8_begin_95 : decode cX8_begin 95 = .ok (.aload_n 0, 1) := by decide +kernel
theorem d_X8_begin_96 : decode cX8_begin 96 = .ok (.getfield 32, 3) := by decide +kernel
theorem d_X8_begin_99 : decode cX8_begin 99 = .ok (.iload 4, 2) := by decide +kernel
theorem d_X8_begin_101 : decode cX8_begin 101 = .ok (.iconst (-1), 1) := by decide +kernel
theorem d_X8_begin_102 : decode cX8_begin 102 = .ok (.iastore, 1) := by decide +kernel
theorem d_X8_begin_103 : decode cX8_begin 103 = .ok (.iinc 4 1, 3) := by decide +kernel
theorem d_X8_begin_106 : decode cX8_begin 106 = .ok (.goto (-77), 3) := by decide +kernel
theorem d_X8_begin_109 : decode cX8_begin 109 = .ok (.iconst 0, 1) := by decide +kernel
theorem d_X8_begin_110 : decode cX8_begin 110 = .ok (.istore 4, 2) := by decide +kernel
theorem d_X8_begin_112 : decode cX8_begin 112 = .ok (.iload 4, 2) := by decide +kernel
theorem d_X8_begin_114 : decode cX8_begin 114 = .ok (.aload_n 0, 1) := by decide +kernel
theorem d_X8_begin_115 : decode cX8_begin 115 = .ok (.getfield 12, 3) := by decide +kernel
theorem d_X8_begin_118 : decode cX8_begin 118 = .ok (.getfield 61, 3) := by decide +kernel
theorem d_X8_begin_121 : decode cX8_begin 121 = .ok (.if_icmp .ge 45, 3) := by decide +kernel
theorem d_X8_begin_124 : decode cX8_begin 124 = .ok (.aload_n 0, 1) := by decide +kernel
theorem d_X8_begin_125 : decode cX8_begin 125 = .ok (.getfield 35, 3) := by decide +kernel
theorem d_X8_begin_128 : decode cX8_begin 128 = .ok (.iload 4, 2) := by decide +kernel
theorem d_X8_begin_130 : decode cX8_begin 130 = .ok (.iconst 0, 1) := by decide +kernel
theorem d_X8_begin_131 : decode cX8_begin 131 = .ok (.iastore, 1) := by decide +kernel
theorem d_X8_begin_132 : decode cX8_begin 132 = .ok (.aload_n 0, 1) := by decide +kernel
theorem d_X8_begin_133 : decode cX8_begin 133 = .ok (.getfield 38, 3) := by decide +kernel
theorem d_X8_begin_136 : decode cX8_begin 136 = .ok (.iload 4, 2) := by decide +kernel
theorem d_X8_begin_138 : decode cX8_begin 138 = .ok (.bipush 60, 2) := by decide +kernel
theorem d_X8_begin_140 : decode cX8_begin 140 = .ok (.aload_n 0, 1) := by decide +kernel
theorem d_X8_begin_141 : decode cX8_begin 141 = .ok (.getfield 12, 3) := by decide +kernel
theorem d_X8_begin_144 : decode cX8_begin 144 = .ok (.getfield 64, 3) := by decide +kernel
theorem d_X8_begin_147 : decode cX8_begin 147 = .ok (.iload 4, 2) := by decide +kernel
theorem d_X8_begin_149 : decode cX8_begin 149 = .ok (.iaload, 1) := by decide +kernel
theorem d_X8_begin_150 : decode cX8_begin 150 = .ok (.imul, 1) := by decide +kernel
theorem d_X8_begin_151 : decode cX8_begin 151 = .ok (.iastore, 1) := by decide +kernel
theorem d_X8_begin_152 : decode cX8_begin 152 = .ok (.aload_n 0, 1) := by decide +kernel
theorem d_X8_begin_153 : decode cX8_begin 153 = .ok (.getfield 41, 3) := by decide +kernel
theorem d_X8_begin_156 : decode cX8_begin 156 = .ok (.iload 4, 2) := by decide +kernel
theorem d_X8_begin_158 : decode cX8_begin 158 = .ok (.iconst (-1), 1) := by decide +kernel
theorem d_X8_begin_159 : decode cX8_begin 159 = .ok (.iastore, 1) := by decide +kernel
theorem d_X8_begin_160 : decode cX8_begin 160 = .ok (.iinc 4 1, 3) := by decide +kernel
theorem d_X8_begin_163 : decode cX8_begin 163 = .ok (.goto (-51), 3) := by decide +kernel
theorem d_X8_begin_166 : decode cX8_begin 166 = .ok (.return_, 1) := by decide +kernel
set_option maxRecDepth 100000 in
theorem L_X8_begin {p : Program} {l : Launch} {e : Env} {s : State} {m : MethodId} {args : Array Value} {below : List Frame} {meth : Method} {c : Code} {D : va_G} {ca : Nat → ClassId} {ad sx sy : Nat → Nat} {A : Nat → Prop} {Q : QT} (C0 : CX p s m args meth c cX8_begin 6 yX8_begin.cls D ca ad A) (hE : EX sx sy A s s.heap) (hr : meth.sig.returnType = none) (hno : ∀ x ∈ c.exceptionTable.toList, False) : R_X8_begin (JW p l e { frames := 13, cells := 0, slots := 6 * 0, locals := 268 } s m args below meth c 6 D ca ad A (vx_MQ below (Qn D ca ad A Q) (Qx D ca ad A Q) args s 0 (6 * 0) A) gz gz true) Q := ⟨s_aln C0 (d_X8_begin_0) hgz (s_aln C0 (d_X8_begin_1) hgz (s_pm C0 (j := 0) (c0 := 8) rfl gX8 tyX8_ok nmX8 (by decide) rfl rfl rfl rfl wg236 (d_X8_begin_2) hgz (s_aln C0 (d_X8_begin_5) hgz (s_aln C0 (d_X8_begin_6) hgz (s_pm C0 (j := 1) (c0 := 8) rfl gX8 tyX8_ok nmX8 (by decide) rfl rfl rfl rfl wg238 (d_X8_begin_7) hgz (s_aln C0 (d_X8_begin_10) hgz (s_gm C0 (j := 0) (c0 := 8) rfl gX8 (by decide) rfl rfl wg236 (d_X8_begin_11) hgz (s_aln C0 (d_X8_begin_14) hgz (s_gr C0 (j := 3) (c0 := 8) rfl gX8 (by decide) rfl rfl wg241 (d_X8_begin_15) hgz (s_iln C0 (d_X8_begin_18) hgz (s_aln C0 (d_X8_begin_19) hgz (s_gr C0 (j := 8) (c0 := 8) rfl gX8 (by decide) rfl rfl wg249 (d_X8_begin_20) hgz (s_callVN C0 hE (c_X6_findThrough l) wg856 wn853 wg855 ws41 wg3 ⟨by decide, by decide⟩ (by decide +kernel) (c0 := 6) rfl ⟨by decide, by decide⟩ ⟨by decide, by decide⟩ (d_X8_begin_23) (fun x hx => (hno x hx).elim) ⟨by decide, by decide⟩ ⟨by decide, by decide⟩ (s_ic C0 (d_X8_begin_26) hgz (s_is C0 (d_X8_begin_27) hgz (fun _ _ _ h => h)) (okn rfl))))))))))))))),
  s_il C0 (d_X8_begin_29) hgz (s_aln C0 (d_X8_begin_31) hgz (s_gm C0 (j := 0) (c0 := 8) rfl gX8 (by decide) rfl rfl wg236 (d_X8_begin_32) hgz (s_giN C0 (j := 3) (c0 := 6) rfl gX6 (by decide) rfl (by decide) wn85 (d_X8_begin_35) hgz (s_cge C0 (d_X8_begin_38) (by decide) hgz hgz (fun _ _ _ h => h) (s_aln C0 (d_X8_begin_41) hgz (s_gm C0 (j := 0) (c0 := 8) rfl gX8 (by decide) rfl rfl wg236 (d_X8_begin_42) hgz (s_grN C0 (j := 6) (c0 := 6) rfl gX6 (by decide) rfl rfl wn106 (d_X8_begin_45) hgz (s_il C0 (d_X8_begin_48) hgz (s_ia C0 (d_X8_begin_50) hgz (s_ic C0 (d_X8_begin_51) hgz (s_cne C0 (d_X8_begin_52) (by decide) hgz hgz (fun _ _ _ h => h) (s_il C0 (d_X8_begin_55) hgz (s_iln C0 (d_X8_begin_57) hgz (s_ceq C0 (d_X8_begin_58) (by decide) hgz hgz (fun _ _ _ h => h) (s_ic C0 (d_X8_begin_61) hgz (s_goto C0 (tgt := 66) (d_X8_begin_62) (by decide) hgz (fun _ _ _ h => h)) (okn rfl)))))) (okn rfl))))))))))),
  s_ic C0 (d_X8_begin_65) hgz (fun _ _ _ h => h) (okn rfl),
  s_is C0 (d_X8_begin_66) hgz (s_aln C0 (d_X8_begin_68) hgz (s_gr C0 (j := 2) (c0 := 8) rfl gX8 (by decide) rfl rfl wg239 (d_X8_begin_69) hgz (s_il C0 (d_X8_begin_72) hgz (s_il C0 (d_X8_begin_74) hgz (s_zeq C0 (d_X8_begin_76) (by decide) hgz hgz (fun _ _ _ h => h) (s_aln C0 (d_X8_begin_79) hgz (s_gm C0 (j := 0) (c0 := 8) rfl gX8 (by decide) rfl rfl wg236 (d_X8_begin_80) hgz (s_grN C0 (j := 4) (c0 := 6) rfl gX6 (by decide) rfl rfl wn93 (d_X8_begin_83) hgz (s_il C0 (d_X8_begin_86) hgz (s_ia C0 (d_X8_begin_88) hgz (s_goto C0 (tgt := 94) (d_X8_begin_89) (by decide) hgz (fun _ _ _ h => h)))))))))))),
  s_bi C0 (d_X8_begin_92) hgz (fun _ _ _ h => h) (okn rfl) rfl,
  s_iax C0 (d_X8_begin_94) hgz (s_aln C0 (d_X8_begin_95) hgz (s_gr C0 (j := 4) (c0 := 8) rfl gX8 (by decide) rfl rfl wg243 (d_X8_begin_96) hgz (s_il C0 (d_X8_begin_99) hgz (s_ic C0 (d_X8_begin_101) hgz (s_iax C0 (d_X8_begin_102) hgz (s_inc C0 (d_X8_begin_103) hgz (s_goto C0 (tgt := 29) (d_X8_begin_106) (by decide) hgz (fun _ _ _ h => h)))) (okn rfl))))),
  s_ic C0 (d_X8_begin_109) hgz (s_is C0 (d_X8_begin_110) hgz (fun _ _ _ h => h)) (okn rfl),
  s_il C0 (d_X8_begin_112) hgz (s_aln C0 (d_X8_begin_114) hgz (s_gm C0 (j := 0) (c0 := 8) rfl gX8 (by decide) rfl rfl wg236 (d_X8_begin_115) hgz (s_giN C0 (j := 0) (c0 := 6) rfl gX6 (by decide) rfl (by decide) wn73 (d_X8_begin_118) hgz (s_cge C0 (d_X8_begin_121) (by decide) hgz hgz (fun _ _ _ h => h) (s_aln C0 (d_X8_begin_124) hgz (s_gr C0 (j := 5) (c0 := 8) rfl gX8 (by decide) rfl rfl wg244 (d_X8_begin_125) hgz (s_il C0 (d_X8_begin_128) hgz (s_ic C0 (d_X8_begin_130) hgz (s_iax C0 (d_X8_begin_131) hgz (s_aln C0 (d_X8_begin_132) hgz (s_gr C0 (j := 6) (c0 := 8) rfl gX8 (by decide) rfl rfl wg245 (d_X8_begin_133) hgz (s_il C0 (d_X8_begin_136) hgz (s_bi C0 (d_X8_begin_138) hgz (s_aln C0 (d_X8_begin_140) hgz (s_gm C0 (j := 0) (c0 := 8) rfl gX8 (by decide) rfl rfl wg236 (d_X8_begin_141) hgz (s_grN C0 (j := 2) (c0 := 6) rfl gX6 (by decide) rfl rfl wn81 (d_X8_begin_144) hgz (s_il C0 (d_X8_begin_147) hgz (s_ia C0 (d_X8_begin_149) hgz (s_mul C0 (d_X8_begin_150) hgz (s_iax C0 (d_X8_begin_151) hgz (s_aln C0 (d_X8_begin_152) hgz (s_gr C0 (j := 7) (c0 := 8) rfl gX8 (by decide) rfl rfl wg247 (d_X8_begin_153) hgz (s_il C0 (d_X8_begin_156) hgz (s_ic C0 (d_X8_begin_158) hgz (s_iax C0 (d_X8_begin_159) hgz (s_inc C0 (d_X8_begin_160) hgz (s_goto C0 (tgt := 112) (d_X8_begin_163) (by decide) hgz (fun _ _ _ h => h)))) (okn rfl)))))))))))) (okn rfl) rfl))))) (okn rfl))))))))),
  s_rv C0 hr (d_X8_begin_166) ⟨by decide, by decide⟩⟩
theorem c_X8_begin (l : Launch) : Ctr l yX8_begin cX8_begin 6 none 13 268 0 (fun sx => (nf G_X8_begin)) := ctr_of (by decide) gz gz ⟨rfl, rfl⟩ (fun p e s m args below meth c D ca ad sx sy A Q as M C0 hE hr hno hF => P_X8_begin (L_X8_begin C0 hE hr hno) hF)
