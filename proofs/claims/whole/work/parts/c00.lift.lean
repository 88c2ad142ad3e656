theorem wg484 : Cond.constant "java/lang/Integer" 267 252645135 ∈ GT := gt_mem 604 (by decide +kernel) rfl
theorem wg483 : Cond.constant "java/lang/Integer" 266 858993459 ∈ GT := gt_mem 603 (by decide +kernel) rfl
theorem wg482 : Cond.constant "java/lang/Integer" 265 1431655765 ∈ GT := gt_mem 602 (by decide +kernel) rfl
theorem d_J6_bitCount_0f7a4_0 : decode cJ6_bitCount_0f7a4 0 = .ok (.iload_n 0, 1) := by decide +kernel
theorem d_J6_bitCount_0f7a4_1 : decode cJ6_bitCount_0f7a4 1 = .ok (.iload_n 0, 1) := by decide +kernel
theorem d_J6_bitCount_0f7a4_2 : decode cJ6_bitCount_0f7a4 2 = .ok (.iconst 1, 1) := by decide +kernel
theorem d_J6_bitCount_0f7a4_3 : decode cJ6_bitCount_0f7a4 3 = .ok (.iushr, 1) := by decide +kernel
theorem d_J6_bitCount_0f7a4_4 : decode cJ6_bitCount_0f7a4 4 = .ok (.ldc_w 265, 3) := by decide +kernel
theorem d_J6_bitCount_0f7a4_7 : decode cJ6_bitCount_0f7a4 7 = .ok (.iand, 1) := by decide +kernel
theorem d_J6_bitCount_0f7a4_8 : decode cJ6_bitCount_0f7a4 8 = .ok (.isub, 1) := by decide +kernel
theorem d_J6_bitCount_0f7a4_9 : decode cJ6_bitCount_0f7a4 9 = .ok (.istore_n 0, 1) := by decide +kernel
theorem d_J6_bitCount_0f7a4_10 : decode cJ6_bitCount_0f7a4 10 = .ok (.iload_n 0, 1) := by decide +kernel
theorem d_J6_bitCount_0f7a4_11 : decode cJ6_bitCount_0f7a4 11 = .ok (.ldc_w 266, 3) := by decide +kernel
theorem d_J6_bitCount_0f7a4_14 : decode cJ6_bitCount_0f7a4 14 = .ok (.iand, 1) := by decide +kernel
theorem d_J6_bitCount_0f7a4_15 : decode cJ6_bitCount_0f7a4 15 = .ok (.iload_n 0, 1) := by decide +kernel
theorem d_J6_bitCount_0f7a4_16 : decode cJ6_bitCount_0f7a4 16 = .ok (.iconst 2, 1) := by decide +kernel
theorem d_J6_bitCount_0f7a4_17 : decode cJ6_bitCount_0f7a4 17 = .ok (.iushr, 1) := by decide +kernel
theorem d_J6_bitCount_0f7a4_18 : decode cJ6_bitCount_0f7a4 18 = .ok (.ldc_w 266, 3) := by decide +kernel
theorem d_J6_bitCount_0f7a4_21 : decode cJ6_bitCount_0f7a4 21 = .ok (.iand, 1) := by decide +kernel
theorem d_J6_bitCount_0f7a4_22 : decode cJ6_bitCount_0f7a4 22 = .ok (.iadd, 1) := by decide +kernel
theorem d_J6_bitCount_0f7a4_23 : decode cJ6_bitCount_0f7a4 23 = .ok (.istore_n 0, 1) := by decide +kernel
theorem d_J6_bitCount_0f7a4_24 : decode cJ6_bitCount_0f7a4 24 = .ok (.iload_n 0, 1) := by decide +kernel
theorem d_J6_bitCount_0f7a4_25 : decode cJ6_bitCount_0f7a4 25 = .ok (.iload_n 0, 1) := by decide +kernel
theorem d_J6_bitCount_0f7a4_26 : decode cJ6_bitCount_0f7a4 26 = .ok (.iconst 4, 1) := by decide +kernel
theorem d_J6_bitCount_0f7a4_27 : decode cJ6_bitCount_0f7a4 27 = .ok (.iushr, 1) := by decide +kernel
theorem d_J6_bitCount_0f7a4_28 : decode cJ6_bitCount_0f7a4 28 = .ok (.iadd, 1) := by decide +kernel
theorem d_J6_bitCount_0f7a4_29 : decode cJ6_bitCount_0f7a4 29 = .ok (.ldc_w 267, 3) := by decide +kernel
theorem d_J6_bitCount_0f7a4_32 : decode cJ6_bitCount_0f7a4 32 = .ok (.iand, 1) := by decide +kernel
theorem d_J6_bitCount_0f7a4_33 : decode cJ6_bitCount_0f7a4 33 = .ok (.istore_n 0, 1) := by decide +kernel
theorem d_J6_bitCount_0f7a4_34 : decode cJ6_bitCount_0f7a4 34 = .ok (.iload_n 0, 1) := by decide +kernel
theorem d_J6_bitCount_0f7a4_35 : decode cJ6_bitCount_0f7a4 35 = .ok (.iload_n 0, 1) := by decide +kernel
theorem d_J6_bitCount_0f7a4_36 : decode cJ6_bitCount_0f7a4 36 = .ok (.bipush 8, 2) := by decide +kernel
theorem d_J6_bitCount_0f7a4_38 : decode cJ6_bitCount_0f7a4 38 = .ok (.iushr, 1) := by decide +kernel
theorem d_J6_bitCount_0f7a4_39 : decode cJ6_bitCount_0f7a4 39 = .ok (.iadd, 1) := by decide +kernel
theorem d_J6_bitCount_0f7a4_40 : decode cJ6_bitCount_0f7a4 40 = .ok (.istore_n 0, 1) := by decide +kernel
theorem d_J6_bitCount_0f7a4_41 : decode cJ6_bitCount_0f7a4 41 = .ok (.iload_n 0, 1) := by decide +kernel
theorem d_J6_bitCount_0f7a4_42 : decode cJ6_bitCount_0f7a4 42 = .ok (.iload_n 0, 1) := by decide +kernel
theorem d_J6_bitCount_0f7a4_43 : decode cJ6_bitCount_0f7a4 43 = .ok (.bipush 16, 2) := by decide +kernel
theorem d_J6_bitCount_0f7a4_45 : decode cJ6_bitCount_0f7a4 45 = .ok (.iushr, 1) := by decide +kernel
theorem d_J6_bitCount_0f7a4_46 : decode cJ6_bitCount_0f7a4 46 = .ok (.iadd, 1) := by decide +kernel
theorem d_J6_bitCount_0f7a4_47 : decode cJ6_bitCount_0f7a4 47 = .ok (.istore_n 0, 1) := by decide +kernel
theorem d_J6_bitCount_0f7a4_48 : decode cJ6_bitCount_0f7a4 48 = .ok (.iload_n 0, 1) := by decide +kernel
theorem d_J6_bitCount_0f7a4_49 : decode cJ6_bitCount_0f7a4 49 = .ok (.bipush 63, 2) := by decide +kernel
theorem d_J6_bitCount_0f7a4_51 : decode cJ6_bitCount_0f7a4 51 = .ok (.iand, 1) := by decide +kernel
theorem d_J6_bitCount_0f7a4_52 : decode cJ6_bitCount_0f7a4 52 = .ok (.ireturn, 1) := by decide +kernel
set_option maxRecDepth 100000 in
theorem L_J6_bitCount_0f7a4 {p : Program} {l : Launch} {e : Env} {s : State} {m : MethodId} {args : Array Value} {below : List Frame} {meth : Method} {c : Code} {D : va_G} {ca : Nat → ClassId} {ad sx sy : Nat → Nat} {A : Nat → Prop} {Q : QT} (C0 : CX p s m args meth c cJ6_bitCount_0f7a4 1 yJ6_bitCount_0f7a4.cls D ca ad A) (hE : EX sx sy A s s.heap) (hr : meth.sig.returnType = (some .int)) (hno : ∀ x ∈ c.exceptionTable.toList, False) : R_J6_bitCount_0f7a4 (JW p l e { frames := 10, cells := 0, slots := 6 * 0, locals := 200 } s m args below meth c 1 D ca ad A (vx_MQ below (Qn D ca ad A Q) (Qx D ca ad A Q) args s 0 (6 * 0) A) gz gz true) Q := s_iln C0 (d_J6_bitCount_0f7a4_0) hgz (s_iln C0 (d_J6_bitCount_0f7a4_1) hgz (s_ic C0 (d_J6_bitCount_0f7a4_2) hgz (s_ush C0 (d_J6_bitCount_0f7a4_3) hgz (s_ldcw C0 (n := 1431655765) wg482 (d_J6_bitCount_0f7a4_4) hgz (s_and C0 (d_J6_bitCount_0f7a4_7) hgz (s_sub C0 (d_J6_bitCount_0f7a4_8) hgz (s_isn C0 (d_J6_bitCount_0f7a4_9) hgz (s_iln C0 (d_J6_bitCount_0f7a4_10) hgz (s_ldcw C0 (n := 858993459) wg483 (d_J6_bitCount_0f7a4_11) hgz (s_and C0 (d_J6_bitCount_0f7a4_14) hgz (s_iln C0 (d_J6_bitCount_0f7a4_15) hgz (s_ic C0 (d_J6_bitCount_0f7a4_16) hgz (s_ush C0 (d_J6_bitCount_0f7a4_17) hgz (s_ldcw C0 (n := 858993459) wg483 (d_J6_bitCount_0f7a4_18) hgz (s_and C0 (d_J6_bitCount_0f7a4_21) hgz (s_add C0 (d_J6_bitCount_0f7a4_22) hgz (s_isn C0 (d_J6_bitCount_0f7a4_23) hgz (s_iln C0 (d_J6_bitCount_0f7a4_24) hgz (s_iln C0 (d_J6_bitCount_0f7a4_25) hgz (s_ic C0 (d_J6_bitCount_0f7a4_26) hgz (s_ush C0 (d_J6_bitCount_0f7a4_27) hgz (s_add C0 (d_J6_bitCount_0f7a4_28) hgz (s_ldcw C0 (n := 252645135) wg484 (d_J6_bitCount_0f7a4_29) hgz (s_and C0 (d_J6_bitCount_0f7a4_32) hgz (s_isn C0 (d_J6_bitCount_0f7a4_33) hgz (s_iln C0 (d_J6_bitCount_0f7a4_34) hgz (s_iln C0 (d_J6_bitCount_0f7a4_35) hgz (s_bi C0 (d_J6_bitCount_0f7a4_36) hgz (s_ush C0 (d_J6_bitCount_0f7a4_38) hgz (s_add C0 (d_J6_bitCount_0f7a4_39) hgz (s_isn C0 (d_J6_bitCount_0f7a4_40) hgz (s_iln C0 (d_J6_bitCount_0f7a4_41) hgz (s_iln C0 (d_J6_bitCount_0f7a4_42) hgz (s_bi C0 (d_J6_bitCount_0f7a4_43) hgz (s_ush C0 (d_J6_bitCount_0f7a4_45) hgz (s_add C0 (d_J6_bitCount_0f7a4_46) hgz (s_isn C0 (d_J6_bitCount_0f7a4_47) hgz (s_iln C0 (d_J6_bitCount_0f7a4_48) hgz (s_bi C0 (d_J6_bitCount_0f7a4_49) hgz (s_and C0 (d_J6_bitCount_0f7a4_51) hgz (s_ri C0 hr (d_J6_bitCount_0f7a4_52) ⟨by decide, by decide⟩)) (okn rfl) rfl))))) (okn rfl) rfl)))))) (okn rfl) rfl))))) (okn rfl)))) (okn rfl))))))) (okn rfl))) (okn rfl)))) (okn rfl)))))) (okn rfl))) (okn rfl)))
theorem c_J6_bitCount_0f7a4 (l : Launch) : Ctr l yJ6_bitCount_0f7a4 cJ6_bitCount_0f7a4 1 (some .int) 10 200 0 (fun sx => (nf G_J6_bitCount_0f7a4)) := ctr_of (by decide) gz gz ⟨rfl, rfl⟩ (fun p e s m args below meth c D ca ad sx sy A Q as M C0 hE hr hno hF => P_J6_bitCount_0f7a4 (L_J6_bitCount_0f7a4 C0 hE hr hno) hF)
theorem d_J9_max_7cf53_0 : decode cJ9_max_7cf53 0 = .ok (.iload_n 0, 1) := by decide +kernel
theorem d_J9_max_7cf53_1 : decode cJ9_max_7cf53 1 = .ok (.iload_n 1, 1) := by decide +kernel
theorem d_J9_max_7cf53_2 : decode cJ9_max_7cf53 2 = .ok (.if_icmp .lt 7, 3) := by decide +kernel
theorem d_J9_max_7cf53_5 : decode cJ9_max_7cf53 5 = .ok (.iload_n 0, 1) := by decide +kernel
theorem d_J9_max_7cf53_6 : decode cJ9_max_7cf53 6 = .ok (.goto 4, 3) := by decide +kernel
theorem d_J9_max_7cf53_9 : decode cJ9_max_7cf53 9 = .ok (.iload_n 1, 1) := by decide +kernel
theorem d_J9_max_7cf53_10 : decode cJ9_max_7cf53 10 = .ok (.ireturn, 1) := by decide +kernel
set_option maxRecDepth 100000 in
theorem L_J9_max_7cf53 {p : Program} {l : Launch} {e : Env} {s : State} {m : MethodId} {args : Array Value} {below : List Frame} {meth : Method} {c : Code} {D : va_G} {ca : Nat → ClassId} {ad sx sy : Nat → Nat} {A : Nat → Prop} {Q : QT} (C0 : CX p s m args meth c cJ9_max_7cf53 2 yJ9_max_7cf53.cls D ca ad A) (hE : EX sx sy A s s.heap) (hr : meth.sig.returnType = (some .int)) (hno : ∀ x ∈ c.exceptionTable.toList, False) : R_J9_max_7cf53 (JW p l e { frames := 10, cells := 0, slots := 6 * 0, locals := 200 } s m args below meth c 2 D ca ad A (vx_MQ below (Qn D ca ad A Q) (Qx D ca ad A Q) args s 0 (6 * 0) A) gz gz true) Q := ⟨s_iln C0 (d_J9_max_7cf53_0) hgz (s_iln C0 (d_J9_max_7cf53_1) hgz (s_clt C0 (d_J9_max_7cf53_2) (by decide) hgz hgz (fun _ _ _ h => h) (s_iln C0 (d_J9_max_7cf53_5) hgz (s_goto C0 (tgt := 10) (d_J9_max_7cf53_6) (by decide) hgz (fun _ _ _ h => h))))),
  s_iln C0 (d_J9_max_7cf53_9) hgz (fun _ _ _ h => h),
  s_ri C0 hr (d_J9_max_7cf53_10) ⟨by decide, by decide⟩⟩
theorem c_J9_max_7cf53 (l : Launch) : Ctr l yJ9_max_7cf53 cJ9_max_7cf53 2 (some .int) 10 200 0 (fun sx => (nf G_J9_max_7cf53)) := ctr_ofF (Jvm.Free.JP.mathPlain rfl (by decide)) gz gz ⟨rfl, rfl⟩ (fun p e s m args below meth c D ca ad sx sy A Q as M C0 hE hr hno hF => P_J9_max_7cf53 (L_J9_max_7cf53 C0 hE hr hno) hF)
theorem d_J9_min_7cf53_0 : decode cJ9_min_7cf53 0 = .ok (.iload_n 0, 1) := by decide +kernel
theorem d_J9_min_7cf53_1 : decode cJ9_min_7cf53 1 = .ok (.iload_n 1, 1) := by decide +kernel
theorem d_J9_min_7cf53_2 : decode cJ9_min_7cf53 2 = .ok (.if_icmp .gt 7, 3) := by decide +kernel
theorem d_J9_min_7cf53_5 : decode cJ9_min_7cf53 5 = .ok (.iload_n 0, 1) := by decide +kernel
theorem d_J9_min_7cf53_6 : decode cJ9_min_7cf53 6 = .ok (.goto 4, 3) := by decide +kernel
theorem d_J9_min_7cf53_9 : decode cJ9_min_7cf53 9 = .ok (.iload_n 1, 1) := by decide +kernel
theorem d_J9_min_7cf53_10 : decode cJ9_min_7cf53 10 = .ok (.ireturn, 1) := by decide +kernel
set_option maxRecDepth 100000 in
theorem L_J9_min_7cf53 {p : Program} {l : Launch} {e : Env} {s : State} {m : MethodId} {args : Array Value} {below : List Frame} {meth : Method} {c : Code} {D : va_G} {ca : Nat → ClassId} {ad sx sy : Nat → Nat} {A : Nat → Prop} {Q : QT} (C0 : CX p s m args meth c cJ9_min_7cf53 2 yJ9_min_7cf53.cls D ca ad A) (hE : EX sx sy A s s.heap) (hr : meth.sig.returnType = (some .int)) (hno : ∀ x ∈ c.exceptionTable.toList, False) : R_J9_min_7cf53 (JW p l e { frames := 10, cells := 0, slots := 6 * 0, locals := 200 } s m args below meth c 2 D ca ad A (vx_MQ below (Qn D ca ad A Q) (Qx D ca ad A Q) args s 0 (6 * 0) A) gz gz true) Q := ⟨s_iln C0 (d_J9_min_7cf53_0) hgz (s_iln C0 (d_J9_min_7cf53_1) hgz (s_cgt C0 (d_J9_min_7cf53_2) (by decide) hgz hgz (fun _ _ _ h => h) (s_iln C0 (d_J9_min_7cf53_5) hgz (s_goto C0 (tgt := 10) (d_J9_min_7cf53_6) (by decide) hgz (fun _ _ _ h => h))))),
  s_iln C0 (d_J9_min_7cf53_9) hgz (fun _ _ _ h => h),
  s_ri C0 hr (d_J9_min_7cf53_10) ⟨by decide, by decide⟩⟩
theorem c_J9_min_7cf53 (l : Launch) : Ctr l yJ9_min_7cf53 cJ9_min_7cf53 2 (some .int) 10 200 0 (fun sx => (nf G_J9_min_7cf53)) := ctr_ofF (Jvm.Free.JP.mathPlain rfl (by decide)) gz gz ⟨rfl, rfl⟩ (fun p e s m args below meth c D ca ad sx sy A Q as M C0 hE hr hno hF => P_J9_min_7cf53 (L_J9_min_7cf53 C0 hE hr hno) hF)
theorem wg200 : Cond.fieldLink "WeighedHall$Ballots" 21 "WeighedHall$Ballots" "number" "I" ∈ GT := gt_mem 320 (by decide +kernel) rfl
theorem wg207 : Cond.fieldLink "WeighedHall$Ballots" 18 "WeighedHall$Ballots" "more" "[I" ∈ GT := gt_mem 327 (by decide +kernel) rfl
theorem wg205 : Cond.fieldLink "WeighedHall$Ballots" 15 "WeighedHall$Ballots" "con" "[I" ∈ GT := gt_mem 325 (by decide +kernel) rfl
theorem wg203 : Cond.fieldLink "WeighedHall$Ballots" 9 "WeighedHall$Ballots" "pro" "[I" ∈ GT := gt_mem 323 (by decide +kernel) rfl
theorem d_X0_add_0 : decode cX0_add 0 = .ok (.aload_n 0, 1) := by decide +kernel
theorem d_X0_add_1 : decode cX0_add 1 = .ok (.getfield 21, 3) := by decide +kernel
theorem d_X0_add_4 : decode cX0_add 4 = .ok (.bipush 9, 2) := by decide +kernel
theorem d_X0_add_6 : decode cX0_add 6 = .ok (.if_icmp .ge 43, 3) := by decide +kernel
theorem d_X0_add_9 : decode cX0_add 9 = .ok (.aload_n 0, 1) := by decide +kernel
theorem d_X0_add_10 : decode cX0_add 10 = .ok (.getfield 9, 3) := by decide +kernel
theorem d_X0_add_13 : decode cX0_add 13 = .ok (.aload_n 0, 1) := by decide +kernel
theorem d_X0_add_14 : decode cX0_add 14 = .ok (.getfield 21, 3) := by decide +kernel
theorem d_X0_add_17 : decode cX0_add 17 = .ok (.iload_n 1, 1) := by decide +kernel
theorem d_X0_add_18 : decode cX0_add 18 = .ok (.iastore, 1) := by decide +kernel
theorem d_X0_add_19 : decode cX0_add 19 = .ok (.aload_n 0, 1) := by decide +kernel
theorem d_X0_add_20 : decode cX0_add 20 = .ok (.getfield 15, 3) := by decide +kernel
theorem d_X0_add_23 : decode cX0_add 23 = .ok (.aload_n 0, 1) := by decide +kernel
theorem d_X0_add_24 : decode cX0_add 24 = .ok (.getfield 21, 3) := by decide +kernel
theorem d_X0_add_27 : decode cX0_add 27 = .ok (.iload_n 2, 1) := by decide +kernel
theorem d_X0_add_28 : decode cX0_add 28 = .ok (.iastore, 1) := by decide +kernel
theorem d_X0_add_29 : decode cX0_add 29 = .ok (.aload_n 0, 1) := by decide +kernel
theorem d_X0_add_30 : decode cX0_add 30 = .ok (.getfield 18, 3) := by decide +kernel
theorem d_X0_add_33 : decode cX0_add 33 = .ok (.aload_n 0, 1) := by decide +kernel
theorem d_X0_add_34 : decode cX0_add 34 = .ok (.getfield 21, 3) := by decide +kernel
theorem d_X0_add_37 : decode cX0_add 37 = .ok (.iload_n 3, 1) := by decide +kernel
theorem d_X0_add_38 : decode cX0_add 38 = .ok (.iastore, 1) := by decide +kernel
theorem d_X0_add_39 : decode cX0_add 39 = .ok (.aload_n 0, 1) := by decide +kernel
theorem d_X0_add_40 : decode cX0_add 40 = .ok (.dup, 1) := by decide +kernel
theorem d_X0_add_41 : decode cX0_add 41 = .ok (.getfield 21, 3) := by decide +kernel
theorem d_X0_add_44 : decode cX0_add 44 = .ok (.iconst 1, 1) := by decide +kernel
theorem d_X0_add_45 : decode cX0_add 45 = .ok (.iadd, 1) := by decide +kernel
theorem d_X0_add_46 : decode cX0_add 46 = .ok (.putfield 21, 3) := by decide +kernel
theorem d_X0_add_49 : decode cX0_add 49 = .ok (.return_, 1) := by decide +kernel
set_option maxRecDepth 100000 in
theorem L_X0_add {p : Program} {l : Launch} {e : Env} {s : State} {m : MethodId} {args : Array Value} {below : List Frame} {meth : Method} {c : Code} {D : va_G} {ca : Nat → ClassId} {ad sx sy : Nat → Nat} {A : Nat → Prop} {Q : QT} (C0 : CX p s m args meth c cX0_add 4 yX0_add.cls D ca ad A) (hE : EX sx sy A s s.heap) (hr : meth.sig.returnType = none) (hno : ∀ x ∈ c.exceptionTable.toList, False) : R_X0_add (JW p l e { frames := 10, cells := 0, slots := 6 * 0, locals := 200 } s m args below meth c 4 D ca ad A (vx_MQ below (Qn D ca ad A Q) (Qx D ca ad A Q) args s 0 (6 * 0) A) gz gz true) Q := ⟨s_aln C0 (d_X0_add_0) hgz (s_gi C0 (j := 0) (c0 := 0) rfl gX0 (by decide) rfl (by decide) wg200 (d_X0_add_1) hgz (s_bi C0 (d_X0_add_4) hgz (s_cge C0 (d_X0_add_6) (by decide) hgz hgz (fun _ _ _ h => h) (s_aln C0 (d_X0_add_9) hgz (s_gr C0 (j := 1) (c0 := 0) rfl gX0 (by decide) rfl rfl wg203 (d_X0_add_10) hgz (s_aln C0 (d_X0_add_13) hgz (s_gi C0 (j := 0) (c0 := 0) rfl gX0 (by decide) rfl (by decide) wg200 (d_X0_add_14) hgz (s_iln C0 (d_X0_add_17) hgz (s_iax C0 (d_X0_add_18) hgz (s_aln C0 (d_X0_add_19) hgz (s_gr C0 (j := 2) (c0 := 0) rfl gX0 (by decide) rfl rfl wg205 (d_X0_add_20) hgz (s_aln C0 (d_X0_add_23) hgz (s_gi C0 (j := 0) (c0 := 0) rfl gX0 (by decide) rfl (by decide) wg200 (d_X0_add_24) hgz (s_iln C0 (d_X0_add_27) hgz (s_iax C0 (d_X0_add_28) hgz (s_aln C0 (d_X0_add_29) hgz (s_gr C0 (j := 3) (c0 := 0) rfl gX0 (by decide) rfl rfl wg207 (d_X0_add_30) hgz (s_aln C0 (d_X0_add_33) hgz (s_gi C0 (j := 0) (c0 := 0) rfl gX0 (by decide) rfl (by decide) wg200 (d_X0_add_34) hgz (s_iln C0 (d_X0_add_37) hgz (s_iax C0 (d_X0_add_38) hgz (s_aln C0 (d_X0_add_39) hgz (s_dup C0 (d_X0_add_40) hgz (s_gi C0 (j := 0) (c0 := 0) rfl gX0 (by decide) rfl (by decide) wg200 (d_X0_add_41) hgz (s_ic C0 (d_X0_add_44) hgz (s_add C0 (d_X0_add_45) hgz (s_pi C0 (j := 0) (c0 := 0) rfl gX0 tyX0_ok nmX0 (by decide) rfl (by decide) rfl rfl wg200 (d_X0_add_46) hgz (fun _ _ _ h => h))) (okn rfl)))))))))))))))))))))))) (okn rfl) rfl)),
  s_rv C0 hr (d_X0_add_49) ⟨by decide, by decide⟩⟩
theorem c_X0_add (l : Launch) : Ctr l yX0_add cX0_add 4 none 10 200 0 (fun sx => (nf G_X0_add)) := ctr_of (by decide) gz gz ⟨rfl, rfl⟩ (fun p e s m args below meth c D ca ad sx sy A Q as M C0 hE hr hno hF => P_X0_add (L_X0_add C0 hE hr hno) hF)
theorem d_X0_clear_0 : decode cX0_clear 0 = .ok (.aload_n 0, 1) := by decide +kernel
theorem d_X0_clear_1 : decode cX0_clear 1 = .ok (.iconst 0, 1) := by decide +kernel
theorem d_X0_clear_2 : decode cX0_clear 2 = .ok (.putfield 21, 3) := by decide +kernel
theorem d_X0_clear_5 : decode cX0_clear 5 = .ok (.return_, 1) := by decide +kernel
set_option maxRecDepth 100000 in
theorem L_X0_clear {p : Program} {l : Launch} {e : Env} {s : State} {m : MethodId} {args : Array Value} {below : List Frame} {meth : Method} {c : Code} {D : va_G} {ca : Nat → ClassId} {ad sx sy : Nat → Nat} {A : Nat → Prop} {Q : QT} (C0 : CX p s m args meth c cX0_clear 1 yX0_clear.cls D ca ad A) (hE : EX sx sy A s s.heap) (hr : meth.sig.returnType = none) (hno : ∀ x ∈ c.exceptionTable.toList, False) : R_X0_clear (JW p l e { frames := 10, cells := 0, slots := 6 * 0, locals := 200 } s m args below meth c 1 D ca ad A (vx_MQ below (Qn D ca ad A Q) (Qx D ca ad A Q) args s 0 (6 * 0) A) gz gz true) Q := s_aln C0 (d_X0_clear_0) hgz (s_ic C0 (d_X0_clear_1) hgz (s_pi C0 (j := 0) (c0 := 0) rfl gX0 tyX0_ok nmX0 (by decide) rfl (by decide) rfl rfl wg200 (d_X0_clear_2) hgz (s_rv C0 hr (d_X0_clear_5) ⟨by decide, by decide⟩)) (okn rfl))
theorem c_X0_clear (l : Launch) : Ctr l yX0_clear cX0_clear 1 none 10 200 0 (fun sx => (nf G_X0_clear)) := ctr_of (by decide) gz gz ⟨rfl, rfl⟩ (fun p e s m args below meth c D ca ad sx sy A Q as M C0 hE hr hno hF => P_X0_clear (L_X0_clear C0 hE hr hno) hF)
theorem wg539 : Cond.methodLink "WeighedHall$Ballots" 25 ⟨"java/lang/System", "arraycopy", "(Ljava/lang/Object;ILjava/lang/Object;II)V"⟩ ∈ GT := gt_mem 659 (by decide +kernel) rfl
theorem wg534 : Cond.native ⟨"java/lang/System", "arraycopy", "(Ljava/lang/Object;ILjava/lang/Object;II)V"⟩ ∈ GT := gt_mem 654 (by decide +kernel) rfl
theorem wg533 : Cond.static ⟨"java/lang/System", "arraycopy", "(Ljava/lang/Object;ILjava/lang/Object;II)V"⟩ ∈ GT := gt_mem 653 (by decide +kernel) rfl
theorem wg23 : Cond.initialized "java/lang/System" ∈ GT := gt_mem 143 (by decide +kernel) rfl
theorem d_X0_copyFrom_0 : decode cX0_copyFrom 0 = .ok (.aload_n 0, 1) := by decide +kernel
theorem d_X0_copyFrom_1 : decode cX0_copyFrom 1 = .ok (.aload_n 1, 1) := by decide +kernel
theorem d_X0_copyFrom_2 : decode cX0_copyFrom 2 = .ok (.getfield 21, 3) := by decide +kernel
theorem d_X0_copyFrom_5 : decode cX0_copyFrom 5 = .ok (.putfield 21, 3) := by decide +kernel
theorem d_X0_copyFrom_8 : decode cX0_copyFrom 8 = .ok (.aload_n 1, 1) := by decide +kernel
theorem d_X0_copyFrom_9 : decode cX0_copyFrom 9 = .ok (.getfield 9, 3) := by decide +kernel
theorem d_X0_copyFrom_12 : decode cX0_copyFrom 12 = .ok (.iconst 0, 1) := by decide +kernel
theorem d_X0_copyFrom_13 : decode cX0_copyFrom 13 = .ok (.aload_n 0, 1) := by decide +kernel
theorem d_X0_copyFrom_14 : decode cX0_copyFrom 14 = .ok (.getfield 9, 3) := by decide +kernel
theorem d_X0_copyFrom_17 : decode cX0_copyFrom 17 = .ok (.iconst 0, 1) := by decide +kernel
theorem d_X0_copyFrom_18 : decode cX0_copyFrom 18 = .ok (.bipush 9, 2) := by decide +kernel
theorem d_X0_copyFrom_20 : decode cX0_copyFrom 20 = .ok (.invokestatic 25, 3) := by decide +kernel
theorem d_X0_copyFrom_23 : decode cX0_copyFrom 23 = .ok (.aload_n 1, 1) := by decide +kernel
theorem d_X0_copyFrom_24 : decode cX0_copyFrom 24 = .ok (.getfield 15, 3) := by decide +kernel
theorem d_X0_copyFrom_27 : decode cX0_copyFrom 27 = .ok (.iconst 0, 1) := by decide +kernel
theorem d_X0_copyFrom_28 : decode cX0_copyFrom 28 = .ok (.aload_n 0, 1) := by decide +kernel
theorem d_X0_copyFrom_29 : decode cX0_copyFrom 29 = .ok (.getfield 15, 3) := by decide +kernel
theorem d_X0_copyFrom_32 : decode cX0_copyFrom 32 = .ok (.iconst 0, 1) := by decide +kernel
theorem d_X0_copyFrom_33 : decode cX0_copyFrom 33 = .ok (.bipush 9, 2) := by decide +kernel
theorem d_X0_copyFrom_35 : decode cX0_copyFrom 35 = .ok (.invokestatic 25, 3) := by decide +kernel
theorem d_X0_copyFrom_38 : decode cX0_copyFrom 38 = .ok (.aload_n 1, 1) := by decide +kernel
theorem d_X0_copyFrom_39 : decode cX0_copyFrom 39 = .ok (.getfield 18, 3) := by decide +kernel
theorem d_X0_copyFrom_42 : decode cX0_copyFrom 42 = .ok (.iconst 0, 1) := by decide +kernel
theorem d_X0_copyFrom_43 : decode cX0_copyFrom 43 = .ok (.aload_n 0, 1) := by decide +kernel
theorem d_X0_copyFrom_44 : decode cX0_copyFrom 44 = .ok (.getfield 18, 3) := by decide +kernel
theorem d_X0_copyFrom_47 : decode cX0_copyFrom 47 = .ok (.iconst 0, 1) := by decide +kernel
theorem d_X0_copyFrom_48 : decode cX0_copyFrom 48 = .ok (.bipush 9, 2) := by decide +kernel
theorem d_X0_copyFrom_50 : decode cX0_copyFrom 50 = .ok (.invokestatic 25, 3) := by decide +kernel
theorem d_X0_copyFrom_53 : decode cX0_copyFrom 53 = .ok (.return_, 1) := by decide +kernel
set_option maxRecDepth 100000 in
theorem L_X0_copyFrom {p : Program} {l : Launch} {e : Env} {s : State} {m : MethodId} {args : Array Value} {below : List Frame} {meth : Method} {c : Code} {D : va_G} {ca : Nat → ClassId} {ad sx sy : Nat → Nat} {A : Nat → Prop} {Q : QT} (C0 : CX p s m args meth c cX0_copyFrom 2 yX0_copyFrom.cls D ca ad A) (hE : EX sx sy A s s.heap) (hr : meth.sig.returnType = none) (hno : ∀ x ∈ c.exceptionTable.toList, False) : R_X0_copyFrom (JW p l e { frames := 10, cells := 0, slots := 6 * 0, locals := 200 } s m args below meth c 2 D ca ad A (vx_MQ below (Qn D ca ad A Q) (Qx D ca ad A Q) args s 0 (6 * 0) A) gz gz true) Q := s_aln C0 (d_X0_copyFrom_0) hgz (s_aln C0 (d_X0_copyFrom_1) hgz (s_gi C0 (j := 0) (c0 := 0) rfl gX0 (by decide) rfl (by decide) wg200 (d_X0_copyFrom_2) hgz (s_pi C0 (j := 0) (c0 := 0) rfl gX0 tyX0_ok nmX0 (by decide) rfl (by decide) rfl rfl wg200 (d_X0_copyFrom_5) hgz (s_aln C0 (d_X0_copyFrom_8) hgz (s_gr C0 (j := 1) (c0 := 0) rfl gX0 (by decide) rfl rfl wg203 (d_X0_copyFrom_9) hgz (s_ic C0 (d_X0_copyFrom_12) hgz (s_aln C0 (d_X0_copyFrom_13) hgz (s_gr C0 (j := 1) (c0 := 0) rfl gX0 (by decide) rfl rfl wg203 (d_X0_copyFrom_14) hgz (s_ic C0 (d_X0_copyFrom_17) hgz (s_bi C0 (d_X0_copyFrom_18) hgz (s_acp C0 wg539 wg534 wg533 wg23 ⟨by decide, by decide⟩ (d_X0_copyFrom_20) hgz (s_aln C0 (d_X0_copyFrom_23) hgz (s_gr C0 (j := 2) (c0 := 0) rfl gX0 (by decide) rfl rfl wg205 (d_X0_copyFrom_24) hgz (s_ic C0 (d_X0_copyFrom_27) hgz (s_aln C0 (d_X0_copyFrom_28) hgz (s_gr C0 (j := 2) (c0 := 0) rfl gX0 (by decide) rfl rfl wg205 (d_X0_copyFrom_29) hgz (s_ic C0 (d_X0_copyFrom_32) hgz (s_bi C0 (d_X0_copyFrom_33) hgz (s_acp C0 wg539 wg534 wg533 wg23 ⟨by decide, by decide⟩ (d_X0_copyFrom_35) hgz (s_aln C0 (d_X0_copyFrom_38) hgz (s_gr C0 (j := 3) (c0 := 0) rfl gX0 (by decide) rfl rfl wg207 (d_X0_copyFrom_39) hgz (s_ic C0 (d_X0_copyFrom_42) hgz (s_aln C0 (d_X0_copyFrom_43) hgz (s_gr C0 (j := 3) (c0 := 0) rfl gX0 (by decide) rfl rfl wg207 (d_X0_copyFrom_44) hgz (s_ic C0 (d_X0_copyFrom_47) hgz (s_bi C0 (d_X0_copyFrom_48) hgz (s_acp C0 wg539 wg534 wg533 wg23 ⟨by decide, by decide⟩ (d_X0_copyFrom_50) hgz (s_rv C0 hr (d_X0_copyFrom_53) ⟨by decide, by decide⟩)) (okn rfl) rfl) (okn rfl)))) (okn rfl))))) (okn rfl) rfl) (okn rfl)))) (okn rfl))))) (okn rfl) rfl) (okn rfl)))) (okn rfl)))))))
theorem c_X0_copyFrom (l : Launch) : Ctr l yX0_copyFrom cX0_copyFrom 2 none 10 200 0 (fun sx => (nf G_X0_copyFrom)) := ctr_of (by decide) gz gz ⟨rfl, rfl⟩ (fun p e s m args below meth c D ca ad sx sy A Q as M C0 hE hr hno hF => P_X0_copyFrom (L_X0_copyFrom C0 hE hr hno) hF)
theorem wg328 : Cond.fieldLink "WeighedHall$Bringing" 22 "WeighedHall$Bringing" "number" "I" ∈ GT := gt_mem 448 (by decide +kernel) rfl
theorem wn108 : Cond.fieldLinkNest "WeighedHall$Bringing" 55 "WeighedHall$Plan" "door" "[I" "WeighedHall" ∈ NT := nt_mem 108 (by decide +kernel) rfl
theorem wn89 : Cond.fieldLinkNest "WeighedHall$Bringing" 52 "WeighedHall$Plan" "things" "I" "WeighedHall" ∈ NT := nt_mem 89 (by decide +kernel) rfl
theorem wg329 : Cond.fieldLink "WeighedHall$Bringing" 9 "WeighedHall$Bringing" "order" "[I" ∈ GT := gt_mem 449 (by decide +kernel) rfl
theorem wn111 : Cond.fieldLinkNest "WeighedHall$Bringing" 42 "WeighedHall$Plan" "start" "[I" "WeighedHall" ∈ NT := nt_mem 111 (by decide +kernel) rfl
theorem d_X1_chooseThings_0 : decode cX1_chooseThings 0 = .ok (.aload_n 0, 1) := by decide +kernel
theorem d_X1_chooseThings_1 : decode cX1_chooseThings 1 = .ok (.iconst 0, 1) := by decide +kernel
theorem d_X1_chooseThings_2 : decode cX1_chooseThings 2 = .ok (.putfield 22, 3) := by decide +kernel
theorem d_X1_chooseThings_5 : decode cX1_chooseThings 5 = .ok (.iconst 0, 1) := by decide +kernel
theorem d_X1_chooseThings_6 : decode cX1_chooseThings 6 = .ok (.istore_n 3, 1) := by decide +kernel
theorem d_X1_chooseThings_7 : decode cX1_chooseThings 7 = .ok (.iload_n 3, 1) := by decide +kernel
theorem d_X1_chooseThings_8 : decode cX1_chooseThings 8 = .ok (.aload_n 1, 1) := by decide +kernel
theorem d_X1_chooseThings_9 : decode cX1_chooseThings 9 = .ok (.getfield 52, 3) := by decide +kernel
theorem d_X1_chooseThings_12 : decode cX1_chooseThings 12 = .ok (.if_icmp .ge 102, 3) := by decide +kernel
theorem d_X1_chooseThings_15 : decode cX1_chooseThings 15 = .ok (.aload_n 1, 1) := by decide +kernel
theorem d_X1_chooseThings_16 : decode cX1_chooseThings 16 = .ok (.getfield 55, 3) := by decide +kernel
theorem d_X1_chooseThings_19 : decode cX1_chooseThings 19 = .ok (.iload_n 3, 1) := by decide +kernel
theorem d_X1_chooseThings_20 : decode cX1_chooseThings 20 = .ok (.iaload, 1) := by decide +kernel
theorem d_X1_chooseThings_21 : decode cX1_chooseThings 21 = .ok (.iload_n 2, 1) := by decide +kernel
theorem d_X1_chooseThings_22 : decode cX1_chooseThings 22 = .ok (.if_icmp .ne 86, 3) := by decide +kernel
theorem d_X1_chooseThings_25 : decode cX1_chooseThings 25 = .ok (.aload_n 0, 1) := by decide +kernel
theorem d_X1_chooseThings_26 : decode cX1_chooseThings 26 = .ok (.getfield 22, 3) := by decide +kernel
theorem d_X1_chooseThings_29 : decode cX1_chooseThings 29 = .ok (.bipush 14, 2) := by decide +kernel
theorem d_X1_chooseThings_31 : decode cX1_chooseThings 31 = .ok (.if_icmp .ge 77, 3) := by decide +kernel
theorem d_X1_chooseThings_34 : decode cX1_chooseThings 34 = .ok (.aload_n 0, 1) := by decide +kernel
theorem d_X1_chooseThings_35 : decode cX1_chooseThings 35 = .ok (.getfield 22, 3) := by decide +kernel
theorem d_X1_chooseThings_38 : decode cX1_chooseThings 38 = .ok (.istore 4, 2) := by decide +kernel
theorem d_X1_chooseThings_40 : decode cX1_chooseThings 40 = .ok (.iload 4, 2) := by decide +kernel
theorem d_X1_chooseThings_42 : decode cX1_chooseThings 42 = .ok (.ifCond .le 48, 3) := by decide +kernel
theorem d_X1_chooseThings_45 : decode cX1_chooseThings 45 = .ok (.aload_n 1, 1) := by decide +kernel
theorem d_X1_chooseThings_46 : decode cX1_chooseThings 46 = .ok (.getfield 42, 3) := by decide +kernel
theorem d_X1_chooseThings_49 : decode cX1_chooseThings 49 = .ok (.aload_n 0, 1) := by decide +kernel
theorem d_X1_chooseThings_50 : decode cX1_chooseThings 50 = .ok (.getfield 9, 3) := by decide +kernel
theorem d_X1_chooseThings_53 : decode cX1_chooseThings 53 = .ok (.iload 4, 2) := by decide +kernel
theorem d_X1_chooseThings_55 : decode cX1_chooseThings 55 = .ok (.iconst 1, 1) := by decide +kernel
theorem d_X1_chooseThings_56 : decode cX1_chooseThings 56 = .ok (.isub, 1) := by decide +kernel
theorem d_X1_chooseThings_57 : decode cX1_chooseThings 57 = .ok (.iaload, 1) := by decide +kernel
theorem d_X1_chooseThings_58 : decode cX1_chooseThings 58 = .ok (.iaload, 1) := by decide +kernel
theorem d_X1_chooseThings_59 : decode cX1_chooseThings 59 = .ok (.aload_n 1, 1) := by decide +kernel
theorem d_X1_chooseThings_60 : decode cX1_chooseThings 60 = .ok (.getfield 42, 3) := by decide +kernel
theorem d_X1_chooseThings_63 : decode cX1_chooseThings 63 = .ok (.iload_n 3, 1) := by decide +kernel
theorem d_X1_chooseThings_64 : decode cX1_chooseThings 64 = .ok (.iaload, 1) := by decide +kernel
theorem d_X1_chooseThings_65 : decode cX1_chooseThings 65 = .ok (.if_icmp .le 25, 3) := by decide +kernel
theorem d_X1_chooseThings_68 : decode cX1_chooseThings 68 = .ok (.aload_n 0, 1) := by decide +kernel
theorem d_X1_chooseThings_69 : decode cX1_chooseThings 69 = .ok (.getfield 9, 3) := by decide +kernel
theorem d_X1_chooseThings_72 : decode cX1_chooseThings 72 = .ok (.iload 4, 2) := by decide +kernel
theorem d_X1_chooseThings_74 : decode cX1_chooseThings 74 = .ok (.aload_n 0, 1) := by decide +kernel
theorem d_X1_chooseThings_75 : decode cX1_chooseThings 75 = .ok (.getfield 9, 3) := by decide +kernel
theorem d_X1_chooseThings_78 : decode cX1_chooseThings 78 = .ok (.iload 4, 2) := by decide +kernel
theorem d_X1_chooseThings_80 : decode cX1_chooseThings 80 = .ok (.iconst 1, 1) := by decide +kernel
theorem d_X1_chooseThings_81 : decode cX1_chooseThings 81 = .ok (.isub, 1) := by decide +kernel
theorem d_X1_chooseThings_82 : decode cX1_chooseThings 82 = .ok (.iaload, 1) := by decide +kernel
theorem d_X1_chooseThings_83 : decode cX1_chooseThings 83 = .ok (.iastore, 1) := by decide +kernel
theorem d_X1_chooseThings_84 : decode cX1_chooseThings 84 = .ok (.iinc 4 (-1), 3) := by decide +kernel
theorem d_X1_chooseThings_87 : decode cX1_chooseThings 87 = .ok (.goto (-47), 3) := by decide +kernel
theorem d_X1_chooseThings_90 : decode cX1_chooseThings 90 = .ok (.aload_n 0, 1) := by decide +kernel
theorem d_X1_chooseThings_91 : decode cX1_chooseThings 91 = .ok (.getfield 9, 3) := by decide +kernel
theorem d_X1_chooseThings_94 : decode cX1_chooseThings 94 = .ok (.iload 4, 2) := by decide +kernel
theorem d_X1_chooseThings_96 : decode cX1_chooseThings 96 = .ok (.iload_n 3, 1) := by decide +kernel
theorem d_X1_chooseThings_97 : decode cX1_chooseThings 97 = .ok (.iastore, 1) := by decide +kernel
theorem d_X1_chooseThings_98 : decode cX1_chooseThings 98 = .ok (.aload_n 0, 1) := by decide +kernel
theorem d_X1_chooseThings_99 : decode cX1_chooseThings 99 = .ok (.dup, 1) := by decide +kernel
theorem d_X1_chooseThings_100 : decode cX1_chooseThings 100 = .ok (.getfield 22, 3) := by decide +kernel
theorem d_X1_chooseThings_103 : decode cX1_chooseThings 103 = .ok (.iconst 1, 1) := by decide +kernel
theorem d_X1_chooseThings_104 : decode cX1_chooseThings 104 = .ok (.iadd, 1) := by decide +kernel
theorem d_X1_chooseThings_105 : decode cX1_chooseThings 105 = .ok (.putfield 22, 3) := by decide +kernel
theorem d_X1_chooseThings_108 : decode cX1_chooseThings 108 = .ok (.iinc 3 1, 3) := by decide +kernel
theorem d_X1_chooseThings_111 : decode cX1_chooseThings 111 = .ok (.goto (-104), 3) := by decide +kernel
theorem d_X1_chooseThings_114 : decode cX1_chooseThings 114 = .ok (.return_, 1) := by decide +kernel
set_option maxRecDepth 100000 in
theorem L_X1_chooseThings {p : Program} {l : Launch} {e : Env} {s : State} {m : MethodId} {args : Array Value} {below : List Frame} {meth : Method} {c : Code} {D : va_G} {ca : Nat → ClassId} {ad sx sy : Nat → Nat} {A : Nat → Prop} {Q : QT} (C0 : CX p s m args meth c cX1_chooseThings 5 yX1_chooseThings.cls D ca ad A) (hE : EX sx sy A s s.heap) (hr : meth.sig.returnType = none) (hno : ∀ x ∈ c.exceptionTable.toList, False) : R_X1_chooseThings (JW p l e { frames := 10, cells := 0, slots := 6 * 0, locals := 200 } s m args below meth c 5 D ca ad A (vx_MQ below (Qn D ca ad A Q) (Qx D ca ad A Q) args s 0 (6 * 0) A) gz gz true) Q := ⟨s_aln C0 (d_X1_chooseThings_0) hgz (s_ic C0 (d_X1_chooseThings_1) hgz (s_pi C0 (j := 0) (c0 := 1) rfl gX1 tyX1_ok nmX1 (by decide) rfl (by decide) rfl rfl wg328 (d_X1_chooseThings_2) hgz (s_ic C0 (d_X1_chooseThings_5) hgz (s_isn C0 (d_X1_chooseThings_6) hgz (fun _ _ _ h => h)) (okn rfl))) (okn rfl)),
  s_iln C0 (d_X1_chooseThings_7) hgz (s_aln C0 (d_X1_chooseThings_8) hgz (s_giN C0 (j := 3) (c0 := 6) rfl gX6 (by decide) rfl (by decide) wn89 (d_X1_chooseThings_9) hgz (s_cge C0 (d_X1_chooseThings_12) (by decide) hgz hgz (fun _ _ _ h => h) (s_aln C0 (d_X1_chooseThings_15) hgz (s_grN C0 (j := 6) (c0 := 6) rfl gX6 (by decide) rfl rfl wn108 (d_X1_chooseThings_16) hgz (s_iln C0 (d_X1_chooseThings_19) hgz (s_ia C0 (d_X1_chooseThings_20) hgz (s_iln C0 (d_X1_chooseThings_21) hgz (s_cne C0 (d_X1_chooseThings_22) (by decide) hgz hgz (fun _ _ _ h => h) (s_aln C0 (d_X1_chooseThings_25) hgz (s_gi C0 (j := 0) (c0 := 1) rfl gX1 (by decide) rfl (by decide) wg328 (d_X1_chooseThings_26) hgz (s_bi C0 (d_X1_chooseThings_29) hgz (s_cge C0 (d_X1_chooseThings_31) (by decide) hgz hgz (fun _ _ _ h => h) (s_aln C0 (d_X1_chooseThings_34) hgz (s_gi C0 (j := 0) (c0 := 1) rfl gX1 (by decide) rfl (by decide) wg328 (d_X1_chooseThings_35) hgz (s_is C0 (d_X1_chooseThings_38) hgz (fun _ _ _ h => h))))) (okn rfl) rfl)))))))))))),
  s_il C0 (d_X1_chooseThings_40) hgz (s_zle C0 (d_X1_chooseThings_42) (by decide) hgz hgz (fun _ _ _ h => h) (s_aln C0 (d_X1_chooseThings_45) hgz (s_grN C0 (j := 7) (c0 := 6) rfl gX6 (by decide) rfl rfl wn111 (d_X1_chooseThings_46) hgz (s_aln C0 (d_X1_chooseThings_49) hgz (s_gr C0 (j := 1) (c0 := 1) rfl gX1 (by decide) rfl rfl wg329 (d_X1_chooseThings_50) hgz (s_il C0 (d_X1_chooseThings_53) hgz (s_ic C0 (d_X1_chooseThings_55) hgz (s_sub C0 (d_X1_chooseThings_56) hgz (s_ia C0 (d_X1_chooseThings_57) hgz (s_ia C0 (d_X1_chooseThings_58) hgz (s_aln C0 (d_X1_chooseThings_59) hgz (s_grN C0 (j := 7) (c0 := 6) rfl gX6 (by decide) rfl rfl wn111 (d_X1_chooseThings_60) hgz (s_iln C0 (d_X1_chooseThings_63) hgz (s_ia C0 (d_X1_chooseThings_64) hgz (s_cle C0 (d_X1_chooseThings_65) (by decide) hgz hgz (fun _ _ _ h => h) (s_aln C0 (d_X1_chooseThings_68) hgz (s_gr C0 (j := 1) (c0 := 1) rfl gX1 (by decide) rfl rfl wg329 (d_X1_chooseThings_69) hgz (s_il C0 (d_X1_chooseThings_72) hgz (s_aln C0 (d_X1_chooseThings_74) hgz (s_gr C0 (j := 1) (c0 := 1) rfl gX1 (by decide) rfl rfl wg329 (d_X1_chooseThings_75) hgz (s_il C0 (d_X1_chooseThings_78) hgz (s_ic C0 (d_X1_chooseThings_80) hgz (s_sub C0 (d_X1_chooseThings_81) hgz (s_ia C0 (d_X1_chooseThings_82) hgz (s_iax C0 (d_X1_chooseThings_83) hgz (s_inc C0 (d_X1_chooseThings_84) hgz (s_goto C0 (tgt := 40) (d_X1_chooseThings_87) (by decide) hgz (fun _ _ _ h => h)))))) (okn rfl)))))))))))))))) (okn rfl)))))))),
  s_aln C0 (d_X1_chooseThings_90) hgz (s_gr C0 (j := 1) (c0 := 1) rfl gX1 (by decide) rfl rfl wg329 (d_X1_chooseThings_91) hgz (s_il C0 (d_X1_chooseThings_94) hgz (s_iln C0 (d_X1_chooseThings_96) hgz (s_iax C0 (d_X1_chooseThings_97) hgz (s_aln C0 (d_X1_chooseThings_98) hgz (s_dup C0 (d_X1_chooseThings_99) hgz (s_gi C0 (j := 0) (c0 := 1) rfl gX1 (by decide) rfl (by decide) wg328 (d_X1_chooseThings_100) hgz (s_ic C0 (d_X1_chooseThings_103) hgz (s_add C0 (d_X1_chooseThings_104) hgz (s_pi C0 (j := 0) (c0 := 1) rfl gX1 tyX1_ok nmX1 (by decide) rfl (by decide) rfl rfl wg328 (d_X1_chooseThings_105) hgz (fun _ _ _ h => h))) (okn rfl))))))))),
  s_inc C0 (d_X1_chooseThings_108) hgz (s_goto C0 (tgt := 7) (d_X1_chooseThings_111) (by decide) hgz (fun _ _ _ h => h)),
  s_rv C0 hr (d_X1_chooseThings_114) ⟨by decide, by decide⟩⟩
theorem c_X1_chooseThings (l : Launch) : Ctr l yX1_chooseThings cX1_chooseThings 5 none 10 200 0 (fun sx => (nf G_X1_chooseThings)) := ctr_of (by decide) gz gz ⟨rfl, rfl⟩ (fun p e s m args below meth c D ca ad sx sy A Q as M C0 hE hr hno hF => P_X1_chooseThings (L_X1_chooseThings C0 hE hr hno) hF)
theorem d_X10_cut_0 : decode cX10_cut 0 = .ok (.iload_n 1, 1) := by decide +kernel
theorem d_X10_cut_1 : decode cX10_cut 1 = .ok (.ifCond .le 9, 3) := by decide +kernel
theorem d_X10_cut_4 : decode cX10_cut 4 = .ok (.iload_n 0, 1) := by decide +kernel
theorem d_X10_cut_5 : decode cX10_cut 5 = .ok (.iload_n 1, 1) := by decide +kernel
theorem d_X10_cut_6 : decode cX10_cut 6 = .ok (.idiv, 1) := by decide +kernel
theorem d_X10_cut_7 : decode cX10_cut 7 = .ok (.goto 4, 3) := by decide +kernel
theorem d_X10_cut_10 : decode cX10_cut 10 = .ok (.iconst 0, 1) := by decide +kernel
theorem d_X10_cut_11 : decode cX10_cut 11 = .ok (.ireturn, 1) := by decide +kernel
set_option maxRecDepth 100000 in
theorem L_X10_cut {p : Program} {l : Launch} {e : Env} {s : State} {m : MethodId} {args : Array Value} {below : List Frame} {meth : Method} {c : Code} {D : va_G} {ca : Nat → ClassId} {ad sx sy : Nat → Nat} {A : Nat → Prop} {Q : QT} (C0 : CX p s m args meth c cX10_cut 2 yX10_cut.cls D ca ad A) (hE : EX sx sy A s s.heap) (hr : meth.sig.returnType = (some .int)) (hno : ∀ x ∈ c.exceptionTable.toList, False) : R_X10_cut (JW p l e { frames := 10, cells := 0, slots := 6 * 0, locals := 200 } s m args below meth c 2 D ca ad A (vx_MQ below (Qn D ca ad A Q) (Qx D ca ad A Q) args s 0 (6 * 0) A) gz gz true) Q := ⟨s_iln C0 (d_X10_cut_0) hgz (s_zle C0 (d_X10_cut_1) (by decide) hgz hgz (fun _ _ _ h => h) (s_iln C0 (d_X10_cut_4) hgz (s_iln C0 (d_X10_cut_5) hgz (s_div C0 (d_X10_cut_6) hgz (s_goto C0 (tgt := 11) (d_X10_cut_7) (by decide) hgz (fun _ _ _ h => h)))))),
  s_ic C0 (d_X10_cut_10) hgz (fun _ _ _ h => h) (okn rfl),
  s_ri C0 hr (d_X10_cut_11) ⟨by decide, by decide⟩⟩
theorem c_X10_cut (l : Launch) : Ctr l yX10_cut cX10_cut 2 (some .int) 10 200 0 (fun sx => (nf G_X10_cut)) := ctr_of (by decide) gz gz ⟨rfl, rfl⟩ (fun p e s m args below meth c D ca ad sx sy A Q as M C0 hE hr hno hF => P_X10_cut (L_X10_cut C0 hE hr hno) hF)
theorem wg112 : Cond.fieldLink "WeighedHall$Plan" 49 "WeighedHall$Plan" "doors" "I" ∈ GT := gt_mem 232 (by decide +kernel) rfl
theorem wg105 : Cond.fieldLink "WeighedHall$Plan" 24 "WeighedHall$Plan" "door" "[I" ∈ GT := gt_mem 225 (by decide +kernel) rfl
theorem wg867 : Cond.code ⟨"WeighedHall", "cut", "(II)I"⟩ prog_1_method_42_code 2 (Option.some .int) ∈ GT := gt_mem 987 (by decide +kernel) rfl
theorem wg1 : Cond.initialized "WeighedHall" ∈ GT := gt_mem 121 (by decide +kernel) rfl
theorem wn865 : Cond.methodLinkNest "WeighedHall$Plan" 122 ⟨"WeighedHall", "cut", "(II)I"⟩ "WeighedHall" ∈ NT := nt_mem 865 (by decide +kernel) rfl
theorem wg866 : Cond.static ⟨"WeighedHall", "cut", "(II)I"⟩ ∈ GT := gt_mem 986 (by decide +kernel) rfl
theorem wg114 : Cond.fieldLink "WeighedHall$Plan" 30 "WeighedHall$Plan" "width" "[I" ∈ GT := gt_mem 234 (by decide +kernel) rfl
theorem wg98 : Cond.fieldLink "WeighedHall$Plan" 21 "WeighedHall$Plan" "weight" "[I" ∈ GT := gt_mem 218 (by decide +kernel) rfl
theorem d_X6_passage_0 : decode cX6_passage 0 = .ok (.aload_n 0, 1) := by decide +kernel
theorem d_X6_passage_1 : decode cX6_passage 1 = .ok (.getfield 24, 3) := by decide +kernel
theorem d_X6_passage_4 : decode cX6_passage 4 = .ok (.iload_n 1, 1) := by decide +kernel
theorem d_X6_passage_5 : decode cX6_passage 5 = .ok (.iaload, 1) := by decide +kernel
theorem d_X6_passage_6 : decode cX6_passage 6 = .ok (.istore_n 2, 1) := by decide +kernel
theorem d_X6_passage_7 : decode cX6_passage 7 = .ok (.iload_n 2, 1) := by decide +kernel
theorem d_X6_passage_8 : decode cX6_passage 8 = .ok (.ifCond .lt 11, 3) := by decide +kernel
theorem d_X6_passage_11 : decode cX6_passage 11 = .ok (.iload_n 2, 1) := by decide +kernel
theorem d_X6_passage_12 : decode cX6_passage 12 = .ok (.aload_n 0, 1) := by decide +kernel
theorem d_X6_passage_13 : decode cX6_passage 13 = .ok (.getfield 49, 3) := by decide +kernel
theorem d_X6_passage_16 : decode cX6_passage 16 = .ok (.if_icmp .lt 5, 3) := by decide +kernel
theorem d_X6_passage_19 : decode cX6_passage 19 = .ok (.iconst 0, 1) := by decide +kernel
theorem d_X6_passage_20 : decode cX6_passage 20 = .ok (.ireturn, 1) := by decide +kernel
theorem d_X6_passage_21 : decode cX6_passage 21 = .ok (.aload_n 0, 1) := by decide +kernel
theorem d_X6_passage_22 : decode cX6_passage 22 = .ok (.getfield 21, 3) := by decide +kernel
theorem d_X6_passage_25 : decode cX6_passage 25 = .ok (.iload_n 1, 1) := by decide +kernel
theorem d_X6_passage_26 : decode cX6_passage 26 = .ok (.iaload, 1) := by decide +kernel
theorem d_X6_passage_27 : decode cX6_passage 27 = .ok (.aload_n 0, 1) := by decide +kernel
theorem d_X6_passage_28 : decode cX6_passage 28 = .ok (.getfield 30, 3) := by decide +kernel
theorem d_X6_passage_31 : decode cX6_passage 31 = .ok (.iload_n 2, 1) := by decide +kernel
theorem d_X6_passage_32 : decode cX6_passage 32 = .ok (.iaload, 1) := by decide +kernel
theorem d_X6_passage_33 : decode cX6_passage 33 = .ok (.iadd, 1) := by decide +kernel
theorem d_X6_passage_34 : decode cX6_passage 34 = .ok (.iconst 1, 1) := by decide +kernel
theorem d_X6_passage_35 : decode cX6_passage 35 = .ok (.isub, 1) := by decide +kernel
theorem d_X6_passage_36 : decode cX6_passage 36 = .ok (.aload_n 0, 1) := by decide +kernel
theorem d_X6_passage_37 : decode cX6_passage 37 = .ok (.getfield 30, 3) := by decide +kernel
theorem d_X6_passage_40 : decode cX6_passage 40 = .ok (.iload_n 2, 1) := by decide +kernel
theorem d_X6_passage_41 : decode cX6_passage 41 = .ok (.iaload, 1) := by decide +kernel
theorem d_X6_passage_42 : decode cX6_passage 42 = .ok (.invokestatic 122, 3) := by decide +kernel
theorem d_X6_passage_45 : decode cX6_passage 45 = .ok (.ireturn, 1) := by decide +kernel
set_option maxRecDepth 100000 in
theorem L_X6_passage {p : Program} {l : Launch} {e : Env} {s : State} {m : MethodId} {args : Array Value} {below : List Frame} {meth : Method} {c : Code} {D : va_G} {ca : Nat → ClassId} {ad sx sy : Nat → Nat} {A : Nat → Prop} {Q : QT} (C0 : CX p s m args meth c cX6_passage 3 yX6_passage.cls D ca ad A) (hE : EX sx sy A s s.heap) (hr : meth.sig.returnType = (some .int)) (hno : ∀ x ∈ c.exceptionTable.toList, False) : R_X6_passage (JW p l e { frames := 11, cells := 0, slots := 6 * 0, locals := 221 } s m args below meth c 3 D ca ad A (vx_MQ below (Qn D ca ad A Q) (Qx D ca ad A Q) args s 0 (6 * 0) A) gz gz true) Q := ⟨s_aln C0 (d_X6_passage_0) hgz (s_gr C0 (j := 6) (c0 := 6) rfl gX6 (by decide) rfl rfl wg105 (d_X6_passage_1) hgz (s_iln C0 (d_X6_passage_4) hgz (s_ia C0 (d_X6_passage_5) hgz (s_isn C0 (d_X6_passage_6) hgz (s_iln C0 (d_X6_passage_7) hgz (s_zlt C0 (d_X6_passage_8) (by decide) hgz hgz (fun _ _ _ h => h) (s_iln C0 (d_X6_passage_11) hgz (s_aln C0 (d_X6_passage_12) hgz (s_gi C0 (j := 8) (c0 := 6) rfl gX6 (by decide) rfl (by decide) wg112 (d_X6_passage_13) hgz (s_clt C0 (d_X6_passage_16) (by decide) hgz hgz (fun _ _ _ h => h) (fun _ _ _ h => h))))))))))),
  s_ic C0 (d_X6_passage_19) hgz (s_ri C0 hr (d_X6_passage_20) ⟨by decide, by decide⟩) (okn rfl),
  s_aln C0 (d_X6_passage_21) hgz (s_gr C0 (j := 5) (c0 := 6) rfl gX6 (by decide) rfl rfl wg98 (d_X6_passage_22) hgz (s_iln C0 (d_X6_passage_25) hgz (s_ia C0 (d_X6_passage_26) hgz (s_aln C0 (d_X6_passage_27) hgz (s_gr C0 (j := 9) (c0 := 6) rfl gX6 (by decide) rfl rfl wg114 (d_X6_passage_28) hgz (s_iln C0 (d_X6_passage_31) hgz (s_ia C0 (d_X6_passage_32) hgz (s_add C0 (d_X6_passage_33) hgz (s_ic C0 (d_X6_passage_34) hgz (s_sub C0 (d_X6_passage_35) hgz (s_aln C0 (d_X6_passage_36) hgz (s_gr C0 (j := 9) (c0 := 6) rfl gX6 (by decide) rfl rfl wg114 (d_X6_passage_37) hgz (s_iln C0 (d_X6_passage_40) hgz (s_ia C0 (d_X6_passage_41) hgz (s_callSN C0 hE (c_X10_cut l) wg867 wn865 wg866 wg1 ⟨by decide, by decide⟩ (by decide +kernel) ⟨by decide, by decide⟩ ⟨by decide, by decide⟩ (d_X6_passage_42) (fun x hx => (hno x hx).elim) ⟨by decide, by decide⟩ ⟨by decide, by decide⟩ (s_ri C0 hr (d_X6_passage_45) ⟨by decide, by decide⟩))))))) (okn rfl))))))))))⟩
theorem c_X6_passage (l : Launch) : Ctr l yX6_passage cX6_passage 3 (some .int) 11 221 0 (fun sx => (nf G_X6_passage)) := ctr_of (by decide) gz gz ⟨rfl, rfl⟩ (fun p e s m args below meth c D ca ad sx sy A Q as M C0 hE hr hno hF => P_X6_passage (L_X6_passage C0 hE hr hno) hF)
theorem wn99 : Cond.fieldLinkNest "WeighedHall$Bringing" 26 "WeighedHall$Plan" "weight" "[I" "WeighedHall" ∈ NT := nt_mem 99 (by decide +kernel) rfl
theorem wg636 : Cond.code ⟨"java/lang/Math", "min", "(II)I"⟩ prog_20_method_69_code 2 (Option.some .int) ∈ GT := gt_mem 756 (by decide +kernel) rfl
theorem wg17 : Cond.initialized "java/lang/Math" ∈ GT := gt_mem 137 (by decide +kernel) rfl
theorem wg1110 : Cond.methodLink "WeighedHall$Bringing" 32 ⟨"java/lang/Math", "min", "(II)I"⟩ ∈ GT := gt_mem 1230 (by decide +kernel) rfl
theorem wg635 : Cond.static ⟨"java/lang/Math", "min", "(II)I"⟩ ∈ GT := gt_mem 755 (by decide +kernel) rfl
theorem wg330 : Cond.fieldLink "WeighedHall$Bringing" 15 "WeighedHall$Bringing" "soonest" "[I" ∈ GT := gt_mem 450 (by decide +kernel) rfl
theorem wg864 : Cond.code ⟨"WeighedHall$Plan", "passage", "(I)I"⟩ prog_8_method_18_code 3 (Option.some .int) ∈ GT := gt_mem 984 (by decide +kernel) rfl
theorem wg3 : Cond.initialized "WeighedHall$Plan" ∈ GT := gt_mem 123 (by decide +kernel) rfl
theorem wn1116 : Cond.methodLinkNest "WeighedHall$Bringing" 48 ⟨"WeighedHall$Plan", "passage", "(I)I"⟩ "WeighedHall" ∈ NT := nt_mem 1116 (by decide +kernel) rfl
theorem wg863 : Cond.instanceMethod ⟨"WeighedHall$Plan", "passage", "(I)I"⟩ ∈ GT := gt_mem 983 (by decide +kernel) rfl
theorem ws42 : Cond.selects "WeighedHall$Plan" ⟨"WeighedHall$Plan", "passage", "(I)I"⟩ ⟨"WeighedHall$Plan", "passage", "(I)I"⟩ ∈ GT := gt_mem 42 (by decide +kernel) rfl
theorem wg860 : Cond.code ⟨"java/lang/Math", "max", "(II)I"⟩ prog_20_method_65_code 2 (Option.some .int) ∈ GT := gt_mem 980 (by decide +kernel) rfl
theorem wg1115 : Cond.methodLink "WeighedHall$Bringing" 45 ⟨"java/lang/Math", "max", "(II)I"⟩ ∈ GT := gt_mem 1235 (by decide +kernel) rfl
theorem wg859 : Cond.static ⟨"java/lang/Math", "max", "(II)I"⟩ ∈ GT := gt_mem 979 (by decide +kernel) rfl
theorem wg1109 : Cond.constant "WeighedHall$Bringing" 31 1000000 ∈ GT := gt_mem 1229 (by decide +kernel) rfl
theorem d_X1_takeIn_0 : decode cX1_takeIn 0 = .ok (.aload_n 1, 1) := by decide +kernel
theorem d_X1_takeIn_1 : decode cX1_takeIn 1 = .ok (.getfield 26, 3) := by decide +kernel
theorem d_X1_takeIn_4 : decode cX1_takeIn 4 = .ok (.iload_n 2, 1) := by decide +kernel
theorem d_X1_takeIn_5 : decode cX1_takeIn 5 = .ok (.iaload, 1) := by decide +kernel
theorem d_X1_takeIn_6 : decode cX1_takeIn 6 = .ok (.istore 4, 2) := by decide +kernel
theorem d_X1_takeIn_8 : decode cX1_takeIn 8 = .ok (.iload_n 3, 1) := by decide +kernel
theorem d_X1_takeIn_9 : decode cX1_takeIn 9 = .ok (.istore 5, 2) := by decide +kernel
theorem d_X1_takeIn_11 : decode cX1_takeIn 11 = .ok (.iload 5, 2) := by decide +kernel
theorem d_X1_takeIn_13 : decode cX1_takeIn 13 = .ok (.iload 4, 2) := by decide +kernel
theorem d_X1_takeIn_15 : decode cX1_takeIn 15 = .ok (.if_icmp .lt 70, 3) := by decide +kernel
theorem d_X1_takeIn_18 : decode cX1_takeIn 18 = .ok (.aload_n 0, 1) := by decide +kernel
theorem d_X1_takeIn_19 : decode cX1_takeIn 19 = .ok (.getfield 15, 3) := by decide +kernel
theorem d_X1_takeIn_22 : decode cX1_takeIn 22 = .ok (.iload 5, 2) := by decide +kernel
theorem d_X1_takeIn_24 : decode cX1_takeIn 24 = .ok (.iload 4, 2) := by decide +kernel
theorem d_X1_takeIn_26 : decode cX1_takeIn 26 = .ok (.isub, 1) := by decide +kernel
theorem d_X1_takeIn_27 : decode cX1_takeIn 27 = .ok (.iaload, 1) := by decide +kernel
theorem d_X1_takeIn_28 : decode cX1_takeIn 28 = .ok (.ldc 31, 2) := by decide +kernel
theorem d_X1_takeIn_30 : decode cX1_takeIn 30 = .ok (.if_icmp .eq 49, 3) := by decide +kernel
theorem d_X1_takeIn_33 : decode cX1_takeIn 33 = .ok (.aload_n 0, 1) := by decide +kernel
theorem d_X1_takeIn_34 : decode cX1_takeIn 34 = .ok (.getfield 15, 3) := by decide +kernel
theorem d_X1_takeIn_37 : decode cX1_takeIn 37 = .ok (.iload 5, 2) := by decide +kernel
theorem d_X1_takeIn_39 : decode cX1_takeIn 39 = .ok (.iload 4, 2) := by decide +kernel
theorem d_X1_takeIn_41 : decode cX1_takeIn 41 = .ok (.isub, 1) := by decide +kernel
theorem d_X1_takeIn_42 : decode cX1_takeIn 42 = .ok (.iaload, 1) := by decide +kernel
theorem d_X1_takeIn_43 : decode cX1_takeIn 43 = .ok (.aload_n 1, 1) := by decide +kernel
theorem d_X1_takeIn_44 : decode cX1_takeIn 44 = .ok (.getfield 42, 3) := by decide +kernel
theorem d_X1_takeIn_47 : decode cX1_takeIn 47 = .ok (.iload_n 2, 1) := by decide +kernel
theorem d_X1_takeIn_48 : decode cX1_takeIn 48 = .ok (.iaload, 1) := by decide +kernel
theorem d_X1_takeIn_49 : decode cX1_takeIn 49 = .ok (.invokestatic 45, 3) := by decide +kernel
theorem d_X1_takeIn_52 : decode cX1_takeIn 52 = .ok (.aload_n 1, 1) := by decide +kernel
theorem d_X1_takeIn_53 : decode cX1_takeIn 53 = .ok (.iload_n 2, 1) := by decide +kernel
theorem d_X1_takeIn_54 : decode cX1_takeIn 54 = .ok (.invokevirtual 48, 3) := by decide +kernel
theorem d_X1_takeIn_57 : decode cX1_takeIn 57 = .ok (.iadd, 1) := by decide +kernel
theorem d_X1_takeIn_58 : decode cX1_takeIn 58 = .ok (.istore 6, 2) := by decide +kernel
theorem d_X1_takeIn_60 : decode cX1_takeIn 60 = .ok (.aload_n 0, 1) := by decide +kernel
theorem d_X1_takeIn_61 : decode cX1_takeIn 61 = .ok (.getfield 15, 3) := by decide +kernel
theorem d_X1_takeIn_64 : decode cX1_takeIn 64 = .ok (.iload 5, 2) := by decide +kernel
theorem d_X1_takeIn_66 : decode cX1_takeIn 66 = .ok (.aload_n 0, 1) := by decide +kernel
theorem d_X1_takeIn_67 : decode cX1_takeIn 67 = .ok (.getfield 15, 3) := by decide +kernel
theorem d_X1_takeIn_70 : decode cX1_takeIn 70 = .ok (.iload 5, 2) := by decide +kernel
theorem d_X1_takeIn_72 : decode cX1_takeIn 72 = .ok (.iaload, 1) := by decide +kernel
theorem d_X1_takeIn_73 : decode cX1_takeIn 73 = .ok (.iload 6, 2) := by decide +kernel
theorem d_X1_takeIn_75 : decode cX1_takeIn 75 = .ok (.invokestatic 32, 3) := by decide +kernel
theorem d_X1_takeIn_78 : decode cX1_takeIn 78 = .ok (.iastore, 1) := by decide +kernel
theorem d_X1_takeIn_79 : decode cX1_takeIn 79 = .ok (.iinc 5 (-1), 3) := by decide +kernel
theorem d_X1_takeIn_82 : decode cX1_takeIn 82 = .ok (.goto (-71), 3) := by decide +kernel
theorem d_X1_takeIn_85 : decode cX1_takeIn 85 = .ok (.return_, 1) := by decide +kernel
set_option maxRecDepth 100000 in
theorem L_X1_takeIn {p : Program} {l : Launch} {e : Env} {s : State} {m : MethodId} {args : Array Value} {below : List Frame} {meth : Method} {c : Code} {D : va_G} {ca : Nat → ClassId} {ad sx sy : Nat → Nat} {A : Nat → Prop} {Q : QT} (C0 : CX p s m args meth c cX1_takeIn 7 yX1_takeIn.cls D ca ad A) (hE : EX sx sy A s s.heap) (hr : meth.sig.returnType = none) (hno : ∀ x ∈ c.exceptionTable.toList, False) : R_X1_takeIn (JW p l e { frames := 12, cells := 0, slots := 6 * 0, locals := 243 } s m args below meth c 7 D ca ad A (vx_MQ below (Qn D ca ad A Q) (Qx D ca ad A Q) args s 0 (6 * 0) A) gz gz true) Q := ⟨s_aln C0 (d_X1_takeIn_0) hgz (s_grN C0 (j := 5) (c0 := 6) rfl gX6 (by decide) rfl rfl wn99 (d_X1_takeIn_1) hgz (s_iln C0 (d_X1_takeIn_4) hgz (s_ia C0 (d_X1_takeIn_5) hgz (s_is C0 (d_X1_takeIn_6) hgz (s_iln C0 (d_X1_takeIn_8) hgz (s_is C0 (d_X1_takeIn_9) hgz (fun _ _ _ h => h))))))),
  s_il C0 (d_X1_takeIn_11) hgz (s_il C0 (d_X1_takeIn_13) hgz (s_clt C0 (d_X1_takeIn_15) (by decide) hgz hgz (fun _ _ _ h => h) (s_aln C0 (d_X1_takeIn_18) hgz (s_gr C0 (j := 2) (c0 := 1) rfl gX1 (by decide) rfl rfl wg330 (d_X1_takeIn_19) hgz (s_il C0 (d_X1_takeIn_22) hgz (s_il C0 (d_X1_takeIn_24) hgz (s_sub C0 (d_X1_takeIn_26) hgz (s_ia C0 (d_X1_takeIn_27) hgz (s_ldc C0 (n := 1000000) wg1109 (d_X1_takeIn_28) hgz (s_ceq C0 (d_X1_takeIn_30) (by decide) hgz hgz (fun _ _ _ h => h) (s_aln C0 (d_X1_takeIn_33) hgz (s_gr C0 (j := 2) (c0 := 1) rfl gX1 (by decide) rfl rfl wg330 (d_X1_takeIn_34) hgz (s_il C0 (d_X1_takeIn_37) hgz (s_il C0 (d_X1_takeIn_39) hgz (s_sub C0 (d_X1_takeIn_41) hgz (s_ia C0 (d_X1_takeIn_42) hgz (s_aln C0 (d_X1_takeIn_43) hgz (s_grN C0 (j := 7) (c0 := 6) rfl gX6 (by decide) rfl rfl wn111 (d_X1_takeIn_44) hgz (s_iln C0 (d_X1_takeIn_47) hgz (s_ia C0 (d_X1_takeIn_48) hgz (s_callS C0 hE (c_J9_max_7cf53 l) wg860 wg1115 wg859 wg17 ⟨by decide, by decide⟩ (by decide +kernel) ⟨by decide, by decide⟩ ⟨by decide, by decide⟩ (d_X1_takeIn_49) (fun x hx => (hno x hx).elim) ⟨by decide, by decide⟩ ⟨by decide, by decide⟩ (s_aln C0 (d_X1_takeIn_52) hgz (s_iln C0 (d_X1_takeIn_53) hgz (s_callVN C0 hE (c_X6_passage l) wg864 wn1116 wg863 ws42 wg3 ⟨by decide, by decide⟩ (by decide +kernel) (c0 := 6) rfl ⟨by decide, by decide⟩ ⟨by decide, by decide⟩ (d_X1_takeIn_54) (fun x hx => (hno x hx).elim) ⟨by decide, by decide⟩ ⟨by decide, by decide⟩ (s_add C0 (d_X1_takeIn_57) hgz (s_is C0 (d_X1_takeIn_58) hgz (s_aln C0 (d_X1_takeIn_60) hgz (s_gr C0 (j := 2) (c0 := 1) rfl gX1 (by decide) rfl rfl wg330 (d_X1_takeIn_61) hgz (s_il C0 (d_X1_takeIn_64) hgz (s_aln C0 (d_X1_takeIn_66) hgz (s_gr C0 (j := 2) (c0 := 1) rfl gX1 (by decide) rfl rfl wg330 (d_X1_takeIn_67) hgz (s_il C0 (d_X1_takeIn_70) hgz (s_ia C0 (d_X1_takeIn_72) hgz (s_il C0 (d_X1_takeIn_73) hgz (s_callS C0 hE (c_J9_min_7cf53 l) wg636 wg1110 wg635 wg17 ⟨by decide, by decide⟩ (by decide +kernel) ⟨by decide, by decide⟩ ⟨by decide, by decide⟩ (d_X1_takeIn_75) (fun x hx => (hno x hx).elim) ⟨by decide, by decide⟩ ⟨by decide, by decide⟩ (s_iax C0 (d_X1_takeIn_78) hgz (fun _ _ _ h => h)))))))))))))))))))))))))))) (okn rfl)))))))))),
  s_inc C0 (d_X1_takeIn_79) hgz (s_goto C0 (tgt := 11) (d_X1_takeIn_82) (by decide) hgz (fun _ _ _ h => h)),
  s_rv C0 hr (d_X1_takeIn_85) ⟨by decide, by decide⟩⟩
theorem c_X1_takeIn (l : Launch) : Ctr l yX1_takeIn cX1_takeIn 7 none 12 243 0 (fun sx => (nf G_X1_takeIn)) := ctr_of (by decide) gz gz ⟨rfl, rfl⟩ (fun p e s m args below meth c D ca ad sx sy A Q as M C0 hE hr hno hF => P_X1_takeIn (L_X1_takeIn C0 hE hr hno) hF)
theorem wg1108 : Cond.code ⟨"WeighedHall$Bringing", "chooseThings", "(LWeighedHall$Plan;I)V"⟩ prog_3_method_4_code 5 (Option.none : Option FieldType) ∈ GT := gt_mem 1228 (by decide +kernel) rfl
theorem wg9 : Cond.initialized "WeighedHall$Bringing" ∈ GT := gt_mem 129 (by decide +kernel) rfl
theorem wg1105 : Cond.methodLink "WeighedHall$Bringing" 18 ⟨"WeighedHall$Bringing", "chooseThings", "(LWeighedHall$Plan;I)V"⟩ ∈ GT := gt_mem 1225 (by decide +kernel) rfl
theorem wg1107 : Cond.instanceMethod ⟨"WeighedHall$Bringing", "chooseThings", "(LWeighedHall$Plan;I)V"⟩ ∈ GT := gt_mem 1227 (by decide +kernel) rfl
theorem ws70 : Cond.selects "WeighedHall$Bringing" ⟨"WeighedHall$Bringing", "chooseThings", "(LWeighedHall$Plan;I)V"⟩ ⟨"WeighedHall$Bringing", "chooseThings", "(LWeighedHall$Plan;I)V"⟩ ∈ GT := gt_mem 70 (by decide +kernel) rfl
theorem wg1114 : Cond.code ⟨"WeighedHall$Bringing", "takeIn", "(LWeighedHall$Plan;II)V"⟩ prog_3_method_3_code 7 (Option.none : Option FieldType) ∈ GT := gt_mem 1234 (by decide +kernel) rfl
theorem wg1111 : Cond.methodLink "WeighedHall$Bringing" 38 ⟨"WeighedHall$Bringing", "takeIn", "(LWeighedHall$Plan;II)V"⟩ ∈ GT := gt_mem 1231 (by decide +kernel) rfl
theorem wg1113 : Cond.instanceMethod ⟨"WeighedHall$Bringing", "takeIn", "(LWeighedHall$Plan;II)V"⟩ ∈ GT := gt_mem 1233 (by decide +kernel) rfl
theorem ws71 : Cond.selects "WeighedHall$Bringing" ⟨"WeighedHall$Bringing", "takeIn", "(LWeighedHall$Plan;II)V"⟩ ⟨"WeighedHall$Bringing", "takeIn", "(LWeighedHall$Plan;II)V"⟩ ∈ GT := gt_mem 71 (by decide +kernel) rfl
theorem d_X1_mostPounds_0 : decode cX1_mostPounds 0 = .ok (.aload_n 0, 1) := by decide +kernel
theorem d_X1_mostPounds_1 : decode cX1_mostPounds 1 = .ok (.aload_n 1, 1) := by decide +kernel
theorem d_X1_mostPounds_2 : decode cX1_mostPounds 2 = .ok (.iload_n 2, 1) := by decide +kernel
theorem d_X1_mostPounds_3 : decode cX1_mostPounds 3 = .ok (.invokevirtual 18, 3) := by decide +kernel
theorem d_X1_mostPounds_6 : decode cX1_mostPounds 6 = .ok (.iconst 0, 1) := by decide +kernel
theorem d_X1_mostPounds_7 : decode cX1_mostPounds 7 = .ok (.istore 4, 2) := by decide +kernel
theorem d_X1_mostPounds_9 : decode cX1_mostPounds 9 = .ok (.aload_n 0, 1) := by decide +kernel
theorem d_X1_mostPounds_10 : decode cX1_mostPounds 10 = .ok (.getfield 15, 3) := by decide +kernel
theorem d_X1_mostPounds_13 : decode cX1_mostPounds 13 = .ok (.iconst 0, 1) := by decide +kernel
theorem d_X1_mostPounds_14 : decode cX1_mostPounds 14 = .ok (.iconst 0, 1) := by decide +kernel
theorem d_X1_mostPounds_15 : decode cX1_mostPounds 15 = .ok (.iastore, 1) := by decide +kernel
theorem d_X1_mostPounds_16 : decode cX1_mostPounds 16 = .ok (.iconst 0, 1) := by decide +kernel
theorem d_X1_mostPounds_17 : decode cX1_mostPounds 17 = .ok (.istore 5, 2) := by decide +kernel
theorem d_X1_mostPounds_19 : decode cX1_mostPounds 19 = .ok (.iload 5, 2) := by decide +kernel
theorem d_X1_mostPounds_21 : decode cX1_mostPounds 21 = .ok (.aload_n 0, 1) := by decide +kernel
theorem d_X1_mostPounds_22 : decode cX1_mostPounds 22 = .ok (.getfield 22, 3) := by decide +kernel
theorem d_X1_mostPounds_25 : decode cX1_mostPounds 25 = .ok (.if_icmp .ge 89, 3) := by decide +kernel
theorem d_X1_mostPounds_28 : decode cX1_mostPounds 28 = .ok (.aload_n 1, 1) := by decide +kernel
theorem d_X1_mostPounds_29 : decode cX1_mostPounds 29 = .ok (.getfield 26, 3) := by decide +kernel
theorem d_X1_mostPounds_32 : decode cX1_mostPounds 32 = .ok (.aload_n 0, 1) := by decide +kernel
theorem d_X1_mostPounds_33 : decode cX1_mostPounds 33 = .ok (.getfield 9, 3) := by decide +kernel
theorem d_X1_mostPounds_36 : decode cX1_mostPounds 36 = .ok (.iload 5, 2) := by decide +kernel
theorem d_X1_mostPounds_38 : decode cX1_mostPounds 38 = .ok (.iaload, 1) := by decide +kernel
theorem d_X1_mostPounds_39 : decode cX1_mostPounds 39 = .ok (.iaload, 1) := by decide +kernel
theorem d_X1_mostPounds_40 : decode cX1_mostPounds 40 = .ok (.istore 6, 2) := by decide +kernel
theorem d_X1_mostPounds_42 : decode cX1_mostPounds 42 = .ok (.iload 4, 2) := by decide +kernel
theorem d_X1_mostPounds_44 : decode cX1_mostPounds 44 = .ok (.iconst 1, 1) := by decide +kernel
theorem d_X1_mostPounds_45 : decode cX1_mostPounds 45 = .ok (.iadd, 1) := by decide +kernel
theorem d_X1_mostPounds_46 : decode cX1_mostPounds 46 = .ok (.istore 7, 2) := by decide +kernel
theorem d_X1_mostPounds_48 : decode cX1_mostPounds 48 = .ok (.iload 7, 2) := by decide +kernel
theorem d_X1_mostPounds_50 : decode cX1_mostPounds 50 = .ok (.iload 4, 2) := by decide +kernel
theorem d_X1_mostPounds_52 : decode cX1_mostPounds 52 = .ok (.iload 6, 2) := by decide +kernel
theorem d_X1_mostPounds_54 : decode cX1_mostPounds 54 = .ok (.iadd, 1) := by decide +kernel
theorem d_X1_mostPounds_55 : decode cX1_mostPounds 55 = .ok (.if_icmp .gt 26, 3) := by decide +kernel
theorem d_X1_mostPounds_58 : decode cX1_mostPounds 58 = .ok (.iload 7, 2) := by decide +kernel
theorem d_X1_mostPounds_60 : decode cX1_mostPounds 60 = .ok (.sipush 1386, 3) := by decide +kernel
theorem d_X1_mostPounds_63 : decode cX1_mostPounds 63 = .ok (.if_icmp .gt 18, 3) := by decide +kernel
theorem d_X1_mostPounds_66 : decode cX1_mostPounds 66 = .ok (.aload_n 0, 1) := by decide +kernel
theorem d_X1_mostPounds_67 : decode cX1_mostPounds 67 = .ok (.getfield 15, 3) := by decide +kernel
theorem d_X1_mostPounds_70 : decode cX1_mostPounds 70 = .ok (.iload 7, 2) := by decide +kernel
theorem d_X1_mostPounds_72 : decode cX1_mostPounds 72 = .ok (.ldc 31, 2) := by decide +kernel
theorem d_X1_mostPounds_74 : decode cX1_mostPounds 74 = .ok (.iastore, 1) := by decide +kernel
theorem d_X1_mostPounds_75 : decode cX1_mostPounds 75 = .ok (.iinc 7 1, 3) := by decide +kernel
theorem d_X1_mostPounds_78 : decode cX1_mostPounds 78 = .ok (.goto (-30), 3) := by decide +kernel
theorem d_X1_mostPounds_81 : decode cX1_mostPounds 81 = .ok (.iload 4, 2) := by decide +kernel
theorem d_X1_mostPounds_83 : decode cX1_mostPounds 83 = .ok (.iload 6, 2) := by decide +kernel
theorem d_X1_mostPounds_85 : decode cX1_mostPounds 85 = .ok (.iadd, 1) := by decide +kernel
theorem d_X1_mostPounds_86 : decode cX1_mostPounds 86 = .ok (.sipush 1386, 3) := by decide +kernel
theorem d_X1_mostPounds_89 : decode cX1_mostPounds 89 = .ok (.invokestatic 32, 3) := by decide +kernel
theorem d_X1_mostPounds_92 : decode cX1_mostPounds 92 = .ok (.istore 4, 2) := by decide +kernel
theorem d_X1_mostPounds_94 : decode cX1_mostPounds 94 = .ok (.aload_n 0, 1) := by decide +kernel
theorem d_X1_mostPounds_95 : decode cX1_mostPounds 95 = .ok (.aload_n 1, 1) := by decide +kernel
theorem d_X1_mostPounds_96 : decode cX1_mostPounds 96 = .ok (.aload_n 0, 1) := by decide +kernel
theorem d_X1_mostPounds_97 : decode cX1_mostPounds 97 = .ok (.getfield 9, 3) := by decide +kernel
theorem d_X1_mostPounds_100 : decode cX1_mostPounds 100 = .ok (.iload 5, 2) := by decide +kernel
theorem d_X1_mostPounds_102 : decode cX1_mostPounds 102 = .ok (.iaload, 1) := by decide +kernel
theorem d_X1_mostPounds_103 : decode cX1_mostPounds 103 = .ok (.iload 4, 2) := by decide +kernel
theorem d_X1_mostPounds_105 : decode cX1_mostPounds 105 = .ok (.invokevirtual 38, 3) := by decide +kernel
theorem d_X1_mostPounds_108 : decode cX1_mostPounds 108 = .ok (.iinc 5 1, 3) := by decide +kernel
theorem d_X1_mostPounds_111 : decode cX1_mostPounds 111 = .ok (.goto (-92), 3) := by decide +kernel
theorem d_X1_mostPounds_114 : decode cX1_mostPounds 114 = .ok (.iload 4, 2) := by decide +kernel
theorem d_X1_mostPounds_116 : decode cX1_mostPounds 116 = .ok (.istore 5, 2) := by decide +kernel
theorem d_X1_mostPounds_118 : decode cX1_mostPounds 118 = .ok (.iload 5, 2) := by decide +kernel
theorem d_X1_mostPounds_120 : decode cX1_mostPounds 120 = .ok (.ifCond .le 23, 3) := by decide +kernel
theorem d_X1_mostPounds_123 : decode cX1_mostPounds 123 = .ok (.aload_n 0, 1) := by decide +kernel
theorem d_X1_mostPounds_124 : decode cX1_mostPounds 124 = .ok (.getfield 15, 3) := by decide +kernel
theorem d_X1_mostPounds_127 : decode cX1_mostPounds 127 = .ok (.iload 5, 2) := by decide +kernel
theorem d_X1_mostPounds_129 : decode cX1_mostPounds 129 = .ok (.iaload, 1) := by decide +kernel
theorem d_X1_mostPounds_130 : decode cX1_mostPounds 130 = .ok (.iload_n 3, 1) := by decide +kernel
theorem d_X1_mostPounds_131 : decode cX1_mostPounds 131 = .ok (.if_icmp .gt 6, 3) := by decide +kernel
theorem d_X1_mostPounds_134 : decode cX1_mostPounds 134 = .ok (.iload 5, 2) := by decide +kernel
theorem d_X1_mostPounds_136 : decode cX1_mostPounds 136 = .ok (.ireturn, 1) := by decide +kernel
theorem d_X1_mostPounds_137 : decode cX1_mostPounds 137 = .ok (.iinc 5 (-1), 3) := by decide +kernel
theorem d_X1_mostPounds_140 : decode cX1_mostPounds 140 = .ok (.goto (-22), 3) := by decide +kernel
theorem d_X1_mostPounds_143 : decode cX1_mostPounds 143 = .ok (.iconst 0, 1) := by decide +kernel
theorem d_X1_mostPounds_144 : decode cX1_mostPounds 144 = .ok (.ireturn, 1) := by decide +kernel
set_option maxRecDepth 100000 in
theorem L_X1_mostPounds {p : Program} {l : Launch} {e : Env} {s : State} {m : MethodId} {args : Array Value} {below : List Frame} {meth : Method} {c : Code} {D : va_G} {ca : Nat → ClassId} {ad sx sy : Nat → Nat} {A : Nat → Prop} {Q : QT} (C0 : CX p s m args meth c cX1_mostPounds 8 yX1_mostPounds.cls D ca ad A) (hE : EX sx sy A s s.heap) (hr : meth.sig.returnType = (some .int)) (hno : ∀ x ∈ c.exceptionTable.toList, False) : R_X1_mostPounds (JW p l e { frames := 13, cells := 0, slots := 6 * 0, locals := 269 } s m args below meth c 8 D ca ad A (vx_MQ below (Qn D ca ad A Q) (Qx D ca ad A Q) args s 0 (6 * 0) A) gz gz true) Q := ⟨s_aln C0 (d_X1_mostPounds_0) hgz (s_aln C0 (d_X1_mostPounds_1) hgz (s_iln C0 (d_X1_mostPounds_2) hgz (s_callV C0 hE (c_X1_chooseThings l) wg1108 wg1105 wg1107 ws70 wg9 ⟨by decide, by decide⟩ (by decide +kernel) (c0 := 1) rfl ⟨by decide, by decide⟩ ⟨by decide, by decide⟩ (d_X1_mostPounds_3) (fun x hx => (hno x hx).elim) ⟨by decide, by decide⟩ ⟨by decide, by decide⟩ (s_ic C0 (d_X1_mostPounds_6) hgz (s_is C0 (d_X1_mostPounds_7) hgz (s_aln C0 (d_X1_mostPounds_9) hgz (s_gr C0 (j := 2) (c0 := 1) rfl gX1 (by decide) rfl rfl wg330 (d_X1_mostPounds_10) hgz (s_ic C0 (d_X1_mostPounds_13) hgz (s_ic C0 (d_X1_mostPounds_14) hgz (s_iax C0 (d_X1_mostPounds_15) hgz (s_ic C0 (d_X1_mostPounds_16) hgz (s_is C0 (d_X1_mostPounds_17) hgz (fun _ _ _ h => h)) (okn rfl))) (okn rfl)) (okn rfl))))) (okn rfl))))),
  s_il C0 (d_X1_mostPounds_19) hgz (s_aln C0 (d_X1_mostPounds_21) hgz (s_gi C0 (j := 0) (c0 := 1) rfl gX1 (by decide) rfl (by decide) wg328 (d_X1_mostPounds_22) hgz (s_cge C0 (d_X1_mostPounds_25) (by decide) hgz hgz (fun _ _ _ h => h) (s_aln C0 (d_X1_mostPounds_28) hgz (s_grN C0 (j := 5) (c0 := 6) rfl gX6 (by decide) rfl rfl wn99 (d_X1_mostPounds_29) hgz (s_aln C0 (d_X1_mostPounds_32) hgz (s_gr C0 (j := 1) (c0 := 1) rfl gX1 (by decide) rfl rfl wg329 (d_X1_mostPounds_33) hgz (s_il C0 (d_X1_mostPounds_36) hgz (s_ia C0 (d_X1_mostPounds_38) hgz (s_ia C0 (d_X1_mostPounds_39) hgz (s_is C0 (d_X1_mostPounds_40) hgz (s_il C0 (d_X1_mostPounds_42) hgz (s_ic C0 (d_X1_mostPounds_44) hgz (s_add C0 (d_X1_mostPounds_45) hgz (s_is C0 (d_X1_mostPounds_46) hgz (fun _ _ _ h => h))) (okn rfl)))))))))))))),
  s_il C0 (d_X1_mostPounds_48) hgz (s_il C0 (d_X1_mostPounds_50) hgz (s_il C0 (d_X1_mostPounds_52) hgz (s_add C0 (d_X1_mostPounds_54) hgz (s_cgt C0 (d_X1_mostPounds_55) (by decide) hgz hgz (fun _ _ _ h => h) (s_il C0 (d_X1_mostPounds_58) hgz (s_si C0 (d_X1_mostPounds_60) hgz (s_cgt C0 (d_X1_mostPounds_63) (by decide) hgz hgz (fun _ _ _ h => h) (s_aln C0 (d_X1_mostPounds_66) hgz (s_gr C0 (j := 2) (c0 := 1) rfl gX1 (by decide) rfl rfl wg330 (d_X1_mostPounds_67) hgz (s_il C0 (d_X1_mostPounds_70) hgz (s_ldc C0 (n := 1000000) wg1109 (d_X1_mostPounds_72) hgz (s_iax C0 (d_X1_mostPounds_74) hgz (s_inc C0 (d_X1_mostPounds_75) hgz (s_goto C0 (tgt := 48) (d_X1_mostPounds_78) (by decide) hgz (fun _ _ _ h => h)))) (okn rfl)))))) (okn rfl) rfl)))))),
  s_il C0 (d_X1_mostPounds_81) hgz (s_il C0 (d_X1_mostPounds_83) hgz (s_add C0 (d_X1_mostPounds_85) hgz (s_si C0 (d_X1_mostPounds_86) hgz (s_callS C0 hE (c_J9_min_7cf53 l) wg636 wg1110 wg635 wg17 ⟨by decide, by decide⟩ (by decide +kernel) ⟨by decide, by decide⟩ ⟨by decide, by decide⟩ (d_X1_mostPounds_89) (fun x hx => (hno x hx).elim) ⟨by decide, by decide⟩ ⟨by decide, by decide⟩ (s_is C0 (d_X1_mostPounds_92) hgz (s_aln C0 (d_X1_mostPounds_94) hgz (s_aln C0 (d_X1_mostPounds_95) hgz (s_aln C0 (d_X1_mostPounds_96) hgz (s_gr C0 (j := 1) (c0 := 1) rfl gX1 (by decide) rfl rfl wg329 (d_X1_mostPounds_97) hgz (s_il C0 (d_X1_mostPounds_100) hgz (s_ia C0 (d_X1_mostPounds_102) hgz (s_il C0 (d_X1_mostPounds_103) hgz (s_callV C0 hE (c_X1_takeIn l) wg1114 wg1111 wg1113 ws71 wg9 ⟨by decide, by decide⟩ (by decide +kernel) (c0 := 1) rfl ⟨by decide, by decide⟩ ⟨by decide, by decide⟩ (d_X1_mostPounds_105) (fun x hx => (hno x hx).elim) ⟨by decide, by decide⟩ ⟨by decide, by decide⟩ (s_inc C0 (d_X1_mostPounds_108) hgz (s_goto C0 (tgt := 19) (d_X1_mostPounds_111) (by decide) hgz (fun _ _ _ h => h))))))))))))) (okn rfl) rfl))),
  s_il C0 (d_X1_mostPounds_114) hgz (s_is C0 (d_X1_mostPounds_116) hgz (fun _ _ _ h => h)),
  s_il C0 (d_X1_mostPounds_118) hgz (s_zle C0 (d_X1_mostPounds_120) (by decide) hgz hgz (fun _ _ _ h => h) (s_aln C0 (d_X1_mostPounds_123) hgz (s_gr C0 (j := 2) (c0 := 1) rfl gX1 (by decide) rfl rfl wg330 (d_X1_mostPounds_124) hgz (s_il C0 (d_X1_mostPounds_127) hgz (s_ia C0 (d_X1_mostPounds_129) hgz (s_iln C0 (d_X1_mostPounds_130) hgz (s_cgt C0 (d_X1_mostPounds_131) (by decide) hgz hgz (fun _ _ _ h => h) (s_il C0 (d_X1_mostPounds_134) hgz (s_ri C0 hr (d_X1_mostPounds_136) ⟨by decide, by decide⟩))))))))),
  s_inc C0 (d_X1_mostPounds_137) hgz (s_goto C0 (tgt := 118) (d_X1_mostPounds_140) (by decide) hgz (fun _ _ _ h => h)),
  s_ic C0 (d_X1_mostPounds_143) hgz (s_ri C0 hr (d_X1_mostPounds_144) ⟨by decide, by decide⟩) (okn rfl)⟩
theorem c_X1_mostPounds (l : Launch) : Ctr l yX1_mostPounds cX1_mostPounds 8 (some .int) 13 269 0 (fun sx => (nf G_X1_mostPounds)) := ctr_of (by decide) gz gz ⟨rfl, rfl⟩ (fun p e s m args below meth c D ca ad sx sy A Q as M C0 hE hr hno hF => P_X1_mostPounds (L_X1_mostPounds C0 hE hr hno) hF)
theorem wn113 : Cond.fieldLinkNest "WeighedHall" 147 "WeighedHall$Plan" "doors" "I" "WeighedHall" ∈ NT := nt_mem 113 (by decide +kernel) rfl
theorem wg394 : Cond.fieldLink "WeighedHall" 19 "WeighedHall" "plan" "LWeighedHall$Plan;" ∈ GT := gt_mem 514 (by decide +kernel) rfl
theorem wg815 : Cond.code ⟨"WeighedHall", "needElement", "(Z)V"⟩ prog_1_method_33_code 2 (Option.none : Option FieldType) ∈ GT := gt_mem 935 (by decide +kernel) rfl
theorem wg812 : Cond.methodLink "WeighedHall" 160 ⟨"WeighedHall", "needElement", "(Z)V"⟩ ∈ GT := gt_mem 932 (by decide +kernel) rfl
theorem wg814 : Cond.instanceMethod ⟨"WeighedHall", "needElement", "(Z)V"⟩ ∈ GT := gt_mem 934 (by decide +kernel) rfl
theorem ws37 : Cond.selects "WeighedHall" ⟨"WeighedHall", "needElement", "(Z)V"⟩ ⟨"WeighedHall", "needElement", "(Z)V"⟩ ∈ GT := gt_mem 37 (by decide +kernel) rfl
theorem wg1104 : Cond.code ⟨"WeighedHall$Bringing", "mostPounds", "(LWeighedHall$Plan;II)I"⟩ prog_3_method_2_code 8 (Option.some .int) ∈ GT := gt_mem 1224 (by decide +kernel) rfl
theorem wn1101 : Cond.methodLinkNest "WeighedHall" 284 ⟨"WeighedHall$Bringing", "mostPounds", "(LWeighedHall$Plan;II)I"⟩ "WeighedHall" ∈ NT := nt_mem 1101 (by decide +kernel) rfl
theorem wg1103 : Cond.instanceMethod ⟨"WeighedHall$Bringing", "mostPounds", "(LWeighedHall$Plan;II)I"⟩ ∈ GT := gt_mem 1223 (by decide +kernel) rfl
theorem ws69 : Cond.selects "WeighedHall$Bringing" ⟨"WeighedHall$Bringing", "mostPounds", "(LWeighedHall$Plan;II)I"⟩ ⟨"WeighedHall$Bringing", "mostPounds", "(LWeighedHall$Plan;II)I"⟩ ∈ GT := gt_mem 69 (by decide +kernel) rfl
theorem wg406 : Cond.fieldLink "WeighedHall" 78 "WeighedHall" "bringing" "LWeighedHall$Bringing;" ∈ GT := gt_mem 526 (by decide +kernel) rfl
theorem wg563 : Cond.code ⟨"WeighedHall", "needArgument", "(Z)V"⟩ prog_1_method_34_code 2 (Option.none : Option FieldType) ∈ GT := gt_mem 683 (by decide +kernel) rfl
theorem wg560 : Cond.methodLink "WeighedHall" 104 ⟨"WeighedHall", "needArgument", "(Z)V"⟩ ∈ GT := gt_mem 680 (by decide +kernel) rfl
theorem wg562 : Cond.instanceMethod ⟨"WeighedHall", "needArgument", "(Z)V"⟩ ∈ GT := gt_mem 682 (by decide +kernel) rfl
theorem ws13 : Cond.selects "WeighedHall" ⟨"WeighedHall", "needArgument", "(Z)V"⟩ ⟨"WeighedHall", "needArgument", "(Z)V"⟩ ∈ GT := gt_mem 13 (by decide +kernel) rfl
theorem d_X10_bring_0 : decode cX10_bring 0 = .ok (.aload_n 0, 1) := by decide +kernel
theorem d_X10_bring_1 : decode cX10_bring 1 = .ok (.iload_n 1, 1) := by decide +kernel
theorem d_X10_bring_2 : decode cX10_bring 2 = .ok (.ifCond .lt 18, 3) := by decide +kernel
theorem d_X10_bring_5 : decode cX10_bring 5 = .ok (.iload_n 1, 1) := by decide +kernel
theorem d_X10_bring_6 : decode cX10_bring 6 = .ok (.aload_n 0, 1) := by decide +kernel
theorem d_X10_bring_7 : decode cX10_bring 7 = .ok (.getfield 19, 3) := by decide +kernel
theorem d_X10_bring_10 : decode cX10_bring 10 = .ok (.getfield 147, 3) := by decide +kernel
theorem d_X10_bring_13 : decode cX10_bring 13 = .ok (.if_icmp .ge 7, 3) := by decide +kernel
theorem d_X10_bring_16 : decode cX10_bring 16 = .ok (.iconst 1, 1) := by decide +kernel
theorem d_X10_bring_17 : decode cX10_bring 17 = .ok (.goto 4, 3) := by decide +kernel
theorem d_X10_bring_20 : decode cX10_bring 20 = .ok (.iconst 0, 1) := by decide +kernel
theorem d_X10_bring_21 : decode cX10_bring 21 = .ok (.invokevirtual 160, 3) := by decide +kernel
theorem d_X10_bring_24 : decode cX10_bring 24 = .ok (.aload_n 0, 1) := by decide +kernel
theorem d_X10_bring_25 : decode cX10_bring 25 = .ok (.iload_n 2, 1) := by decide +kernel
theorem d_X10_bring_26 : decode cX10_bring 26 = .ok (.ifCond .lt 14, 3) := by decide +kernel
theorem d_X10_bring_29 : decode cX10_bring 29 = .ok (.iload_n 2, 1) := by decide +kernel
theorem d_X10_bring_30 : decode cX10_bring 30 = .ok (.sipush 999, 3) := by decide +kernel
theorem d_X10_bring_33 : decode cX10_bring 33 = .ok (.if_icmp .gt 7, 3) := by decide +kernel
theorem d_X10_bring_36 : decode cX10_bring 36 = .ok (.iconst 1, 1) := by decide +kernel
theorem d_X10_bring_37 : decode cX10_bring 37 = .ok (.goto 4, 3) := by decide +kernel
theorem d_X10_bring_40 : decode cX10_bring 40 = .ok (.iconst 0, 1) := by decide +kernel
theorem d_X10_bring_41 : decode cX10_bring 41 = .ok (.invokevirtual 104, 3) := by decide +kernel
theorem d_X10_bring_44 : decode cX10_bring 44 = .ok (.aload_n 0, 1) := by decide +kernel
theorem d_X10_bring_45 : decode cX10_bring 45 = .ok (.getfield 78, 3) := by decide +kernel
theorem d_X10_bring_48 : decode cX10_bring 48 = .ok (.aload_n 0, 1) := by decide +kernel
theorem d_X10_bring_49 : decode cX10_bring 49 = .ok (.getfield 19, 3) := by decide +kernel
theorem d_X10_bring_52 : decode cX10_bring 52 = .ok (.iload_n 1, 1) := by decide +kernel
theorem d_X10_bring_53 : decode cX10_bring 53 = .ok (.iload_n 2, 1) := by decide +kernel
theorem d_X10_bring_54 : decode cX10_bring 54 = .ok (.invokevirtual 284, 3) := by decide +kernel
theorem d_X10_bring_57 : decode cX10_bring 57 = .ok (.ireturn, 1) := by decide +kernel
set_option maxRecDepth 100000 in
theorem L_X10_bring {p : Program} {l : Launch} {e : Env} {s : State} {m : MethodId} {args : Array Value} {below : List Frame} {meth : Method} {c : Code} {D : va_G} {ca : Nat → ClassId} {ad sx sy : Nat → Nat} {A : Nat → Prop} {Q : QT} (hl0 : l.stackTraces = false) (C0 : CX p s m args meth c cX10_bring 3 yX10_bring.cls D ca ad A) (hE : EX sx sy A s s.heap) (hr : meth.sig.returnType = (some .int)) (hno : ∀ x ∈ c.exceptionTable.toList, False) : R_X10_bring (JW p l e { frames := 14, cells := 2, slots := 6 * 2, locals := 296 } s m args below meth c 3 D ca ad A (vx_MQ below (Qn D ca ad A Q) (Qx D ca ad A Q) args s 2 (6 * 2) A) (gl [(21, 1), (41, 1)]) (gl6 [(21, 1), (41, 1)]) true) Q := ⟨s_aln C0 (d_X10_bring_0) (hgq rfl) (s_iln C0 (d_X10_bring_1) (hgq rfl) (s_zlt C0 (d_X10_bring_2) (by decide) (hgq rfl) (hgq rfl) (fun _ _ _ h => h) (s_iln C0 (d_X10_bring_5) (hgq rfl) (s_aln C0 (d_X10_bring_6) (hgq rfl) (s_gm C0 (j := 1) (c0 := 10) rfl gX10 (by decide) rfl rfl wg394 (d_X10_bring_7) (hgq rfl) (s_giN C0 (j := 8) (c0 := 6) rfl gX6 (by decide) rfl (by decide) wn113 (d_X10_bring_10) (hgq rfl) (s_cge C0 (d_X10_bring_13) (by decide) (hgq rfl) (hgq rfl) (fun _ _ _ h => h) (s_ic C0 (d_X10_bring_16) (hgq rfl) (s_goto C0 (tgt := 21) (d_X10_bring_17) (by decide) (hgq rfl) (fun _ _ _ h => h)) (okn rfl))))))))),
  s_ic C0 (d_X10_bring_20) (hgq rfl) (fun _ _ _ h => h) (okn rfl),
  s_callV C0 hE (c_X10_needElement l hl0) wg815 wg812 wg814 ws37 wg1 ⟨by decide, by decide⟩ (by decide +kernel) (c0 := 10) rfl ⟨by decide, by decide⟩ ⟨by decide, by decide⟩ (d_X10_bring_21) (fun x hx => (hno x hx).elim) ⟨by decide, by decide⟩ ⟨by decide, by decide⟩ (s_aln C0 (d_X10_bring_24) (hgq rfl) (s_iln C0 (d_X10_bring_25) (hgq rfl) (s_zlt C0 (d_X10_bring_26) (by decide) (hgq rfl) (hgq rfl) (fun _ _ _ h => h) (s_iln C0 (d_X10_bring_29) (hgq rfl) (s_si C0 (d_X10_bring_30) (hgq rfl) (s_cgt C0 (d_X10_bring_33) (by decide) (hgq rfl) (hgq rfl) (fun _ _ _ h => h) (s_ic C0 (d_X10_bring_36) (hgq rfl) (s_goto C0 (tgt := 41) (d_X10_bring_37) (by decide) (hgq rfl) (fun _ _ _ h => h)) (okn rfl))) (okn rfl) rfl))))),
  s_ic C0 (d_X10_bring_40) (hgq rfl) (fun _ _ _ h => h) (okn rfl),
  s_callV C0 hE (c_X10_needArgument l hl0) wg563 wg560 wg562 ws13 wg1 ⟨by decide, by decide⟩ (by decide +kernel) (c0 := 10) rfl ⟨by decide, by decide⟩ ⟨by decide, by decide⟩ (d_X10_bring_41) (fun x hx => (hno x hx).elim) ⟨by decide, by decide⟩ ⟨by decide, by decide⟩ (s_aln C0 (d_X10_bring_44) (hgq rfl) (s_gr C0 (j := 13) (c0 := 10) rfl gX10 (by decide) rfl rfl wg406 (d_X10_bring_45) (hgq rfl) (s_aln C0 (d_X10_bring_48) (hgq rfl) (s_gm C0 (j := 1) (c0 := 10) rfl gX10 (by decide) rfl rfl wg394 (d_X10_bring_49) (hgq rfl) (s_iln C0 (d_X10_bring_52) (hgq rfl) (s_iln C0 (d_X10_bring_53) (hgq rfl) (s_callVN C0 hE (c_X1_mostPounds l) wg1104 wn1101 wg1103 ws69 wg9 ⟨by decide, by decide⟩ (by decide +kernel) (c0 := 1) rfl ⟨by decide, by decide⟩ ⟨by decide, by decide⟩ (d_X10_bring_54) (fun x hx => (hno x hx).elim) ⟨by decide, by decide⟩ ⟨by decide, by decide⟩ (s_ri C0 hr (d_X10_bring_57) ⟨by decide, by decide⟩))))))))⟩
theorem c_X10_bring (l : Launch) (hl0 : l.stackTraces = false) : Ctr l yX10_bring cX10_bring 3 (some .int) 14 296 2 (fun sx => F_X10_bring) := ctr_of (by decide) (gl [(21, 1), (41, 1)]) (gl6 [(21, 1), (41, 1)]) ⟨rfl, rfl⟩ (fun p e s m args below meth c D ca ad sx sy A Q as M C0 hE hr hno hF => P_X10_bring (L_X10_bring hl0 C0 hE hr hno) hF)
theorem wg857 : Cond.constant "WeighedHall$Plan" 125 1000000 ∈ GT := gt_mem 977 (by decide +kernel) rfl
theorem wg84 : Cond.fieldLink "WeighedHall$Plan" 46 "WeighedHall$Plan" "things" "I" ∈ GT := gt_mem 204 (by decide +kernel) rfl
theorem wg861 : Cond.methodLink "WeighedHall$Plan" 131 ⟨"WeighedHall$Plan", "passage", "(I)I"⟩ ∈ GT := gt_mem 981 (by decide +kernel) rfl
theorem wg858 : Cond.methodLink "WeighedHall$Plan" 126 ⟨"java/lang/Math", "max", "(II)I"⟩ ∈ GT := gt_mem 978 (by decide +kernel) rfl
theorem wg110 : Cond.fieldLink "WeighedHall$Plan" 27 "WeighedHall$Plan" "start" "[I" ∈ GT := gt_mem 230 (by decide +kernel) rfl
theorem d_X6_findThrough_0 : decode cX6_findThrough 0 = .ok (.iconst 0, 1) := by decide +kernel
theorem d_X6_findThrough_1 : decode cX6_findThrough 1 = .ok (.istore 4, 2) := by decide +kernel
theorem d_X6_findThrough_3 : decode cX6_findThrough 3 = .ok (.iload 4, 2) := by decide +kernel
theorem d_X6_findThrough_5 : decode cX6_findThrough 5 = .ok (.aload_n 3, 1) := by decide +kernel
theorem d_X6_findThrough_6 : decode cX6_findThrough 6 = .ok (.arraylength, 1) := by decide +kernel
theorem d_X6_findThrough_7 : decode cX6_findThrough 7 = .ok (.if_icmp .ge 14, 3) := by decide +kernel
theorem d_X6_findThrough_10 : decode cX6_findThrough 10 = .ok (.aload_n 3, 1) := by decide +kernel
theorem d_X6_findThrough_11 : decode cX6_findThrough 11 = .ok (.iload 4, 2) := by decide +kernel
theorem d_X6_findThrough_13 : decode cX6_findThrough 13 = .ok (.iconst 0, 1) := by decide +kernel
theorem d_X6_findThrough_14 : decode cX6_findThrough 14 = .ok (.iastore, 1) := by decide +kernel
theorem d_X6_findThrough_15 : decode cX6_findThrough 15 = .ok (.iinc 4 1, 3) := by decide +kernel
theorem d_X6_findThrough_18 : decode cX6_findThrough 18 = .ok (.goto (-15), 3) := by decide +kernel
theorem d_X6_findThrough_21 : decode cX6_findThrough 21 = .ok (.iconst 0, 1) := by decide +kernel
theorem d_X6_findThrough_22 : decode cX6_findThrough 22 = .ok (.istore 4, 2) := by decide +kernel
theorem d_X6_findThrough_24 : decode cX6_findThrough 24 = .ok (.iload 4, 2) := by decide +kernel
theorem d_X6_findThrough_26 : decode cX6_findThrough 26 = .ok (.aload_n 0, 1) := by decide +kernel
theorem d_X6_findThrough_27 : decode cX6_findThrough 27 = .ok (.getfield 46, 3) := by decide +kernel
theorem d_X6_findThrough_30 : decode cX6_findThrough 30 = .ok (.if_icmp .ge 93, 3) := by decide +kernel
theorem d_X6_findThrough_33 : decode cX6_findThrough 33 = .ok (.iload 4, 2) := by decide +kernel
theorem d_X6_findThrough_35 : decode cX6_findThrough 35 = .ok (.aload_n 1, 1) := by decide +kernel
theorem d_X6_findThrough_36 : decode cX6_findThrough 36 = .ok (.arraylength, 1) := by decide +kernel
theorem d_X6_findThrough_37 : decode cX6_findThrough 37 = .ok (.if_icmp .ge 86, 3) := by decide +kernel
theorem d_X6_findThrough_40 : decode cX6_findThrough 40 = .ok (.aload_n 0, 1) := by decide +kernel
theorem d_X6_findThrough_41 : decode cX6_findThrough 41 = .ok (.getfield 24, 3) := by decide +kernel
theorem d_X6_findThrough_44 : decode cX6_findThrough 44 = .ok (.iload 4, 2) := by decide +kernel
theorem d_X6_findThrough_46 : decode cX6_findThrough 46 = .ok (.iaload, 1) := by decide +kernel
theorem d_X6_findThrough_47 : decode cX6_findThrough 47 = .ok (.istore 5, 2) := by decide +kernel
theorem d_X6_findThrough_49 : decode cX6_findThrough 49 = .ok (.iload 4, 2) := by decide +kernel
theorem d_X6_findThrough_51 : decode cX6_findThrough 51 = .ok (.iload_n 2, 1) := by decide +kernel
theorem d_X6_findThrough_52 : decode cX6_findThrough 52 = .ok (.if_icmp .ne 12, 3) := by decide +kernel
theorem d_X6_findThrough_55 : decode cX6_findThrough 55 = .ok (.aload_n 1, 1) := by decide +kernel
theorem d_X6_findThrough_56 : decode cX6_findThrough 56 = .ok (.iload 4, 2) := by decide +kernel
theorem d_X6_findThrough_58 : decode cX6_findThrough 58 = .ok (.ldc 125, 2) := by decide +kernel
theorem d_X6_findThrough_60 : decode cX6_findThrough 60 = .ok (.iastore, 1) := by decide +kernel
theorem d_X6_findThrough_61 : decode cX6_findThrough 61 = .ok (.goto 56, 3) := by decide +kernel
theorem d_X6_findThrough_64 : decode cX6_findThrough 64 = .ok (.iload 5, 2) := by decide +kernel
theorem d_X6_findThrough_66 : decode cX6_findThrough 66 = .ok (.ifCond .lt 10, 3) := by decide +kernel
theorem d_X6_findThrough_69 : decode cX6_findThrough 69 = .ok (.iload 5, 2) := by decide +kernel
theorem d_X6_findThrough_71 : decode cX6_findThrough 71 = .ok (.aload_n 3, 1) := by decide +kernel
theorem d_X6_findThrough_72 : decode cX6_findThrough 72 = .ok (.arraylength, 1) := by decide +kernel
theorem d_X6_findThrough_73 : decode cX6_findThrough 73 = .ok (.if_icmp .lt 11, 3) := by decide +kernel
theorem d_X6_findThrough_76 : decode cX6_findThrough 76 = .ok (.aload_n 1, 1) := by decide +kernel
theorem d_X6_findThrough_77 : decode cX6_findThrough 77 = .ok (.iload 4, 2) := by decide +kernel
theorem d_X6_findThrough_79 : decode cX6_findThrough 79 = .ok (.iconst 0, 1) := by decide +kernel
theorem d_X6_findThrough_80 : decode cX6_findThrough 80 = .ok (.iastore, 1) := by decide +kernel
theorem d_X6_findThrough_81 : decode cX6_findThrough 81 = .ok (.goto 36, 3) := by decide +kernel
theorem d_X6_findThrough_84 : decode cX6_findThrough 84 = .ok (.aload_n 1, 1) := by decide +kernel
theorem d_X6_findThrough_85 : decode cX6_findThrough 85 = .ok (.iload 4, 2) := by decide +kernel
theorem d_X6_findThrough_87 : decode cX6_findThrough 87 = .ok (.aload_n 0, 1) := by decide +kernel
theorem d_X6_findThrough_88 : decode cX6_findThrough 88 = .ok (.getfield 27, 3) := by decide +kernel
theorem d_X6_findThrough_91 : decode cX6_findThrough 91 = .ok (.iload 4, 2) := by decide +kernel
theorem d_X6_findThrough_93 : decode cX6_findThrough 93 = .ok (.iaload, 1) := by decide +kernel
theorem d_X6_findThrough_94 : decode cX6_findThrough 94 = .ok (.aload_n 3, 1) := by decide +kernel
theorem d_X6_findThrough_95 : decode cX6_findThrough 95 = .ok (.iload 5, 2) := by decide +kernel
theorem d_X6_findThrough_97 : decode cX6_findThrough 97 = .ok (.iaload, 1) := by decide +kernel
theorem d_X6_findThrough_98 : decode cX6_findThrough 98 = .ok (.invokestatic 126, 3) := by decide +kernel
theorem d_X6_findThrough_101 : decode cX6_findThrough 101 = .ok (.aload_n 0, 1) := by decide +kernel
theorem d_X6_findThrough_102 : decode cX6_findThrough 102 = .ok (.iload 4, 2) := by decide +kernel
theorem d_X6_findThrough_104 : decode cX6_findThrough 104 = .ok (.invokevirtual 131, 3) := by decide +kernel
theorem d_X6_findThrough_107 : decode cX6_findThrough 107 = .ok (.iadd, 1) := by decide +kernel
theorem d_X6_findThrough_108 : decode cX6_findThrough 108 = .ok (.iastore, 1) := by decide +kernel
theorem d_X6_findThrough_109 : decode cX6_findThrough 109 = .ok (.aload_n 3, 1) := by decide +kernel
theorem d_X6_findThrough_110 : decode cX6_findThrough 110 = .ok (.iload 5, 2) := by decide +kernel
theorem d_X6_findThrough_112 : decode cX6_findThrough 112 = .ok (.aload_n 1, 1) := by decide +kernel
theorem d_X6_findThrough_113 : decode cX6_findThrough 113 = .ok (.iload 4, 2) := by decide +kernel
theorem d_X6_findThrough_115 : decode cX6_findThrough 115 = .ok (.iaload, 1) := by decide +kernel
theorem d_X6_findThrough_116 : decode cX6_findThrough 116 = .ok (.iastore, 1) := by decide +kernel
theorem d_X6_findThrough_117 : decode cX6_findThrough 117 = .ok (.iinc 4 1, 3) := by decide +kernel
theorem d_X6_findThrough_120 : decode cX6_findThrough 120 = .ok (.goto (-96), 3) := by decide +kernel
theorem d_X6_findThrough_123 : decode cX6_findThrough 123 = .ok (.return_, 1) := by decide +kernel
set_option maxRecDepth 100000 in
theorem L_X6_findThrough {p : Program} {l : Launch} {e : Env} {s : State} {m : MethodId} {args : Array Value} {below : List Frame} {meth : Method} {c : Code} {D : va_G} {ca : Nat → ClassId} {ad sx sy : Nat → Nat} {A : Nat → Prop} {Q : QT} (C0 : CX p s m args meth c cX6_findThrough 6 yX6_findThrough.cls D ca ad A) (hE : EX sx sy A s s.heap) (hr : meth.sig.returnType = none) (hno : ∀ x ∈ c.exceptionTable.toList, False) : R_X6_findThrough (JW p l e { frames := 12, cells := 0, slots := 6 * 0, locals := 243 } s m args below meth c 6 D ca ad A (vx_MQ below (Qn D ca ad A Q) (Qx D ca ad A Q) args s 0 (6 * 0) A) gz gz true) Q := ⟨s_ic C0 (d_X6_findThrough_0) hgz (s_is C0 (d_X6_findThrough_1) hgz (fun _ _ _ h => h)) (okn rfl),
  s_il C0 (d_X6_findThrough_3) hgz (s_aln C0 (d_X6_findThrough_5) hgz (s_len C0 (d_X6_findThrough_6) hgz (s_cge C0 (d_X6_findThrough_7) (by decide) hgz hgz (fun _ _ _ h => h) (s_aln C0 (d_X6_findThrough_10) hgz (s_il C0 (d_X6_findThrough_11) hgz (s_ic C0 (d_X6_findThrough_13) hgz (s_iax C0 (d_X6_findThrough_14) hgz (s_inc C0 (d_X6_findThrough_15) hgz (s_goto C0 (tgt := 3) (d_X6_findThrough_18) (by decide) hgz (fun _ _ _ h => h)))) (okn rfl))))))),
  s_ic C0 (d_X6_findThrough_21) hgz (s_is C0 (d_X6_findThrough_22) hgz (fun _ _ _ h => h)) (okn rfl),
  s_il C0 (d_X6_findThrough_24) hgz (s_aln C0 (d_X6_findThrough_26) hgz (s_gi C0 (j := 3) (c0 := 6) rfl gX6 (by decide) rfl (by decide) wg84 (d_X6_findThrough_27) hgz (s_cge C0 (d_X6_findThrough_30) (by decide) hgz hgz (fun _ _ _ h => h) (s_il C0 (d_X6_findThrough_33) hgz (s_aln C0 (d_X6_findThrough_35) hgz (s_len C0 (d_X6_findThrough_36) hgz (s_cge C0 (d_X6_findThrough_37) (by decide) hgz hgz (fun _ _ _ h => h) (s_aln C0 (d_X6_findThrough_40) hgz (s_gr C0 (j := 6) (c0 := 6) rfl gX6 (by decide) rfl rfl wg105 (d_X6_findThrough_41) hgz (s_il C0 (d_X6_findThrough_44) hgz (s_ia C0 (d_X6_findThrough_46) hgz (s_is C0 (d_X6_findThrough_47) hgz (s_il C0 (d_X6_findThrough_49) hgz (s_iln C0 (d_X6_findThrough_51) hgz (s_cne C0 (d_X6_findThrough_52) (by decide) hgz hgz (fun _ _ _ h => h) (s_aln C0 (d_X6_findThrough_55) hgz (s_il C0 (d_X6_findThrough_56) hgz (s_ldc C0 (n := 1000000) wg857 (d_X6_findThrough_58) hgz (s_iax C0 (d_X6_findThrough_60) hgz (s_goto C0 (tgt := 117) (d_X6_findThrough_61) (by decide) hgz (fun _ _ _ h => h))) (okn rfl))))))))))))))))))),
  s_il C0 (d_X6_findThrough_64) hgz (s_zlt C0 (d_X6_findThrough_66) (by decide) hgz hgz (fun _ _ _ h => h) (s_il C0 (d_X6_findThrough_69) hgz (s_aln C0 (d_X6_findThrough_71) hgz (s_len C0 (d_X6_findThrough_72) hgz (s_clt C0 (d_X6_findThrough_73) (by decide) hgz hgz (fun _ _ _ h => h) (fun _ _ _ h => h)))))),
  s_aln C0 (d_X6_findThrough_76) hgz (s_il C0 (d_X6_findThrough_77) hgz (s_ic C0 (d_X6_findThrough_79) hgz (s_iax C0 (d_X6_findThrough_80) hgz (s_goto C0 (tgt := 117) (d_X6_findThrough_81) (by decide) hgz (fun _ _ _ h => h))) (okn rfl))),
  s_aln C0 (d_X6_findThrough_84) hgz (s_il C0 (d_X6_findThrough_85) hgz (s_aln C0 (d_X6_findThrough_87) hgz (s_gr C0 (j := 7) (c0 := 6) rfl gX6 (by decide) rfl rfl wg110 (d_X6_findThrough_88) hgz (s_il C0 (d_X6_findThrough_91) hgz (s_ia C0 (d_X6_findThrough_93) hgz (s_aln C0 (d_X6_findThrough_94) hgz (s_il C0 (d_X6_findThrough_95) hgz (s_ia C0 (d_X6_findThrough_97) hgz (s_callS C0 hE (c_J9_max_7cf53 l) wg860 wg858 wg859 wg17 ⟨by decide, by decide⟩ (by decide +kernel) ⟨by decide, by decide⟩ ⟨by decide, by decide⟩ (d_X6_findThrough_98) (fun x hx => (hno x hx).elim) ⟨by decide, by decide⟩ ⟨by decide, by decide⟩ (s_aln C0 (d_X6_findThrough_101) hgz (s_il C0 (d_X6_findThrough_102) hgz (s_callV C0 hE (c_X6_passage l) wg864 wg861 wg863 ws42 wg3 ⟨by decide, by decide⟩ (by decide +kernel) (c0 := 6) rfl ⟨by decide, by decide⟩ ⟨by decide, by decide⟩ (d_X6_findThrough_104) (fun x hx => (hno x hx).elim) ⟨by decide, by decide⟩ ⟨by decide, by decide⟩ (s_add C0 (d_X6_findThrough_107) hgz (s_iax C0 (d_X6_findThrough_108) hgz (s_aln C0 (d_X6_findThrough_109) hgz (s_il C0 (d_X6_findThrough_110) hgz (s_aln C0 (d_X6_findThrough_112) hgz (s_il C0 (d_X6_findThrough_113) hgz (s_ia C0 (d_X6_findThrough_115) hgz (s_iax C0 (d_X6_findThrough_116) hgz (fun _ _ _ h => h))))))))))))))))))))),
  s_inc C0 (d_X6_findThrough_117) hgz (s_goto C0 (tgt := 24) (d_X6_findThrough_120) (by decide) hgz (fun _ _ _ h => h)),
  s_rv C0 hr (d_X6_findThrough_123) ⟨by decide, by decide⟩⟩
theorem c_X6_findThrough (l : Launch) : Ctr l yX6_findThrough cX6_findThrough 6 none 12 243 0 (fun sx => (nf G_X6_findThrough)) := ctr_of (by decide) gz gz ⟨rfl, rfl⟩ (fun p e s m args below meth c D ca ad sx sy A Q as M C0 hE hr hno hF => P_X6_findThrough (L_X6_findThrough C0 hE hr hno) hF)
theorem wg856 : Cond.code ⟨"WeighedHall$Plan", "findThrough", "([II[I)V"⟩ prog_8_method_19_code 6 (Option.none : Option FieldType) ∈ GT := gt_mem 976 (by decide +kernel) rfl
theorem wn853 : Cond.methodLinkNest "WeighedHall$Sitting" 47 ⟨"WeighedHall$Plan", "findThrough", "([II[I)V"⟩ "WeighedHall" ∈ NT := nt_mem 853 (by decide +kernel) rfl
theorem wg855 : Cond.instanceMethod ⟨"WeighedHall$Plan", "findThrough", "([II[I)V"⟩ ∈ GT := gt_mem 975 (by decide +kernel) rfl
theorem ws41 : Cond.selects "WeighedHall$Plan" ⟨"WeighedHall$Plan", "findThrough", "([II[I)V"⟩ ⟨"WeighedHall$Plan", "findThrough", "([II[I)V"⟩ ∈ GT := gt_mem 41 (by decide +kernel) rfl
theorem wg249 : Cond.fieldLink "WeighedHall$Sitting" 44 "WeighedHall$Sitting" "doorFree" "[I" ∈ GT := gt_mem 369 (by decide +kernel) rfl
theorem wg241 : Cond.fieldLink "WeighedHall$Sitting" 29 "WeighedHall$Sitting" "through" "[I" ∈ GT := gt_mem 361 (by decide +kernel) rfl
theorem wg236 : Cond.fieldLink "WeighedHall$Sitting" 12 "WeighedHall$Sitting" "plan" "LWeighedHall$Plan;" ∈ GT := gt_mem 356 (by decide +kernel) rfl
theorem wg238 : Cond.fieldLink "WeighedHall$Sitting" 21 "WeighedHall$Sitting" "loans" "LWeighedHall$Loans;" ∈ GT := gt_mem 358 (by decide +kernel) rfl
theorem wn106 : Cond.fieldLinkNest "WeighedHall$Sitting" 55 "WeighedHall$Plan" "door" "[I" "WeighedHall" ∈ NT := nt_mem 106 (by decide +kernel) rfl
theorem wn85 : Cond.fieldLinkNest "WeighedHall$Sitting" 51 "WeighedHall$Plan" "things" "I" "WeighedHall" ∈ NT := nt_mem 85 (by decide +kernel) rfl
theorem wn93 : Cond.fieldLinkNest "WeighedHall$Sitting" 58 "WeighedHall$Plan" "owner" "[I" "WeighedHall" ∈ NT := nt_mem 93 (by decide +kernel) rfl
theorem wg239 : Cond.fieldLink "WeighedHall$Sitting" 25 "WeighedHall$Sitting" "holder" "[I" ∈ GT := gt_mem 359 (by decide +kernel) rfl
theorem wg243 : Cond.fieldLink "WeighedHall$Sitting" 32 "WeighedHall$Sitting" "lentBy" "[I" ∈ GT := gt_mem 363 (by decide +kernel) rfl
theorem wg247 : Cond.fieldLink "WeighedHall$Sitting" 41 "WeighedHall$Sitting" "spentAt" "[I" ∈ GT := gt_mem 367 (by decide +kernel) rfl
theorem wn81 : Cond.fieldLinkNest "WeighedHall$Sitting" 64 "WeighedHall$Plan" "arm" "[I" "WeighedHall" ∈ NT := nt_mem 81 (by decide +kernel) rfl
theorem wg245 : Cond.fieldLink "WeighedHall$Sitting" 38 "WeighedHall$Sitting" "strength" "[I" ∈ GT := gt_mem 365 (by decide +kernel) rfl
theorem wg244 : Cond.fieldLink "WeighedHall$Sitting" 35 "WeighedHall$Sitting" "load" "[I" ∈ GT := gt_mem 364 (by decide +kernel) rfl
theorem wn73 : Cond.fieldLinkNest "WeighedHall$Sitting" 61 "WeighedHall$Plan" "persons" "I" "WeighedHall" ∈ NT := nt_mem 73 (by decide +kernel) rfl
theorem d_X8_begin_0 : decode cX8_begin 0 = .ok (.aload_n 0, 1) := by decide +kernel
theorem d_X8_begin_1 : decode cX8_begin 1 = .ok (.aload_n 1, 1) := by decide +kernel
theorem d_X8_begin_2 : decode cX8_begin 2 = .ok (.putfield 12, 3) := by decide +kernel
theorem d_X8_begin_5 : decode cX8_begin 5 = .ok (.aload_n 0, 1) := by decide +kernel
theorem d_X8_begin_6 : decode cX8_begin 6 = .ok (.aload_n 2, 1) := by decide +kernel
theorem d_X8_begin_7 : decode cX8_begin 7 = .ok (.putfield 21, 3) := by decide +kernel
theorem d_X8_begin_10 : decode cX8_begin 10 = .ok (.aload_n 0, 1) := by decide +kernel
theorem d_X8_begin_11 : decode cX8_begin 11 = .ok (.getfield 12, 3) := by decide +kernel
theorem d_X8_begin_14 : decode cX8_begin 14 = .ok (.aload_n 0, 1) := by decide +kernel
theorem d_X8_begin_15 : decode cX8_begin 15 = .ok (.getfield 29, 3) := by decide +kernel
theorem d_X8_begin_18 : decode cX8_begin 18 = .ok (.iload_n 3, 1) := by decide +kernel
theorem d_X8_begin_19 : decode cX8_begin 19 = .ok (.aload_n 0, 1) := by decide +kernel
theorem d_X8_begin_20 : decode cX8_begin 20 = .ok (.getfield 44, 3) := by decide +kernel
theorem d_X8_begin_23 : decode cX8_begin 23 = .ok (.invokevirtual 47, 3) := by decide +kernel
theorem d_X8_begin_26 : decode cX8_begin 26 = .ok (.iconst 0, 1) := by decide +kernel
theorem d_X8_begin_27 : decode cX8_begin 27 = .ok (.istore 4, 2) := by decide +kernel
theorem d_X8_begin_29 : decode cX8_begin 29 = .ok (.iload 4, 2) := by decide +kernel
theorem d_X8_begin_31 : decode cX8_begin 31 = .ok (.aload_n 0, 1) := by decide +kernel
theorem d_X8_begin_32 : decode cX8_begin 32 = .ok (.getfield 12, 3) := by decide +kernel
theorem d_X8_begin_35 : decode cX8_begin 35 = .ok (.getfield 51, 3) := by decide +kernel
theorem d_X8_begin_38 : decode cX8_begin 38 = .ok (.if_icmp .ge 71, 3) := by decide +kernel
theorem d_X8_begin_41 : decode cX8_begin 41 = .ok (.aload_n 0, 1) := by decide +kernel
theorem d_X8_begin_42 : decode cX8_begin 42 = .ok (.getfield 12, 3) := by decide +kernel
theorem d_X8_begin_45 : decode cX8_begin 45 = .ok (.getfield 55, 3) := by decide +kernel
theorem d_X8_begin_48 : decode cX8_begin 48 = .ok (.iload 4, 2) := by decide +kernel
theorem d_X8_begin_50 : decode cX8_begin 50 = .ok (.iaload, 1) := by decide +kernel
theorem d_X8_begin_51 : decode cX8_begin 51 = .ok (.iconst (-1), 1) := by decide +kernel
theorem d_X8_begin_52 : decode cX8_begin 52 = .ok (.if_icmp .ne 13, 3) := by decide +kernel
theorem d_X8_begin_55 : decode cX8_begin 55 = .ok (.iload 4, 2) := by decide +kernel
theorem d_X8_begin_57 : decode cX8_begin 57 = .ok (.iload_n 3, 1) := by decide +kernel
theorem d_X8_begin_58 : decode cX8_begin 58 = .ok (.if_icmp .eq 7, 3) := by decide +kernel
theorem d_X8_begin_61 : decode cX8_begin 61 = .ok (.iconst 1, 1) := by decide +kernel
theorem d_X8_begin_62 : decode cX8_begin 62 = .ok (.goto 4, 3) := by decide +kernel
theorem d_X8_begin_65 : decode cX8_begin 65 = .ok (.iconst 0, 1) := by decide +kernel
theorem d_X8_begin_66 : decode cX8_begin 66 = .ok (.istore 5, 2) := by decide +kernel
theorem d_X8_begin_68 : decode cX8_begin 68 = .ok (.aload_n 0, 1) := by decide +kernel
theorem d_X8_begin_69 : decode cX8_begin 69 = .ok (.getfield 25, 3) := by decide +kernel
theorem d_X8_begin_72 : decode cX8_begin 72 = .ok (.iload 4, 2) := by decide +kernel
theorem d_X8_begin_74 : decode cX8_begin 74 = .ok (.iload 5, 2) := by decide +kernel
theorem d_X8_begin_76 : decode cX8_begin 76 = .ok (.ifCond .eq 16, 3) := by decide +kernel
theorem d_X8_begin_79 : decode cX8_begin 79 = .ok (.aload_n 0, 1) := by decide +kernel
theorem d_X8_begin_80 : decode cX8_begin 80 = .ok (.getfield 12, 3) := by decide +kernel
theorem d_X8_begin_83 : decode cX8_begin 83 = .ok (.getfield 58, 3) := by decide +kernel
theorem d_X8_begin_86 : decode cX8_begin 86 = .ok (.iload 4, 2) := by decide +kernel
theorem d_X8_begin_88 : decode cX8_begin 88 = .ok (.iaload, 1) := by decide +kernel
theorem d_X8_begin_89 : decode cX8_begin 89 = .ok (.goto 5, 3) := by decide +kernel
theorem d_X8_begin_92 : decode cX8_begin 92 = .ok (.bipush (-2), 2) := by decide +kernel
theorem d_X8_begin_94 : decode cX8_begin 94 = .ok (.iastore, 1) := by decide +kernel
theorem d_X8_begin_95 : decode cX8_begin 95 = .ok (.aload_n 0, 1) := by decide +kernel
theorem d_X8_begin_96 : decode cX8_begin 96 = .ok (.getfield 32, 3) := by decide +kernel
theorem d_X8_begin_99 : decode cX8_begin 99 = .ok (.iload 4, 2) := by decide +kernel
theorem d_X8_begin_101 : decode cX8_begin 101 = .ok (.iconst (-1), 1) := by decide +kernel
theorem d_X8_begin_102 : decode cX8_begin 102 = .ok (.iastore, 1) := by decide +kernel
theorem d_X8_begin_103 : decode cX8_begin 103 = .ok (.iinc 4 1, 3) := by decide +kernel
theorem d_X8_begin_106 : decode cX8_begin 106 = .ok (.goto (-77), 3) := by decide +kernel
theorem d_X8_begin_109 : decode cX8_begin 109 = .ok (.iconst 0, 1) := by decide +kernel
theorem d_X8_begin_110 : decode cX8_begin 110 = .ok (.istore 4, 2) := by decide +kernel
theorem d_X8_begin_112 : decode cX8_begin 112 = .ok (.iload 4, 2) := by decide +kernel
theorem d_X8_begin_114 : decode cX8_begin 114 = .ok (.aload_n 0, 1) := by decide +kernel
theorem d_X8_begin_115 : decode cX8_begin 115 = .ok (.getfield 12, 3) := by decide +kernel
theorem d_X8_begin_118 : decode cX8_begin 118 = .ok (.getfield 61, 3) := by decide +kernel
theorem d_X8_begin_121 : decode cX8_begin 121 = .ok (.if_icmp .ge 45, 3) := by decide +kernel
theorem d_X8_begin_124 : decode cX8_begin 124 = .ok (.aload_n 0, 1) := by decide +kernel
theorem d_X8_begin_125 : decode cX8_begin 125 = .ok (.getfield 35, 3) := by decide +kernel
theorem d_X8_begin_128 : decode cX8_begin 128 = .ok (.iload 4, 2) := by decide +kernel
theorem d_X8_begin_130 : decode cX8_begin 130 = .ok (.iconst 0, 1) := by decide +kernel
theorem d_X8_begin_131 : decode cX8_begin 131 = .ok (.iastore, 1) := by decide +kernel
theorem d_X8_begin_132 : decode cX8_begin 132 = .ok (.aload_n 0, 1) := by decide +kernel
theorem d_X8_begin_133 : decode cX8_begin 133 = .ok (.getfield 38, 3) := by decide +kernel
theorem d_X8_begin_136 : decode cX8_begin 136 = .ok (.iload 4, 2) := by decide +kernel
theorem d_X8_begin_138 : decode cX8_begin 138 = .ok (.bipush 60, 2) := by decide +kernel
theorem d_X8_begin_140 : decode cX8_begin 140 = .ok (.aload_n 0, 1) := by decide +kernel
theorem d_X8_begin_141 : decode cX8_begin 141 = .ok (.getfield 12, 3) := by decide +kernel
theorem d_X8_begin_144 : decode cX8_begin 144 = .ok (.getfield 64, 3) := by decide +kernel
theorem d_X8_begin_147 : decode cX8_begin 147 = .ok (.iload 4, 2) := by decide +kernel
theorem d_X8_begin_149 : decode cX8_begin 149 = .ok (.iaload, 1) := by decide +kernel
theorem d_X8_begin_150 : decode cX8_begin 150 = .ok (.imul, 1) := by decide +kernel
theorem d_X8_begin_151 : decode cX8_begin 151 = .ok (.iastore, 1) := by decide +kernel
theorem d_X8_begin_152 : decode cX8_begin 152 = .ok (.aload_n 0, 1) := by decide +kernel
theorem d_X8_begin_153 : decode cX8_begin 153 = .ok (.getfield 41, 3) := by decide +kernel
theorem d_X8_begin_156 : decode cX8_begin 156 = .ok (.iload 4, 2) := by decide +kernel
theorem d_X8_begin_158 : decode cX8_begin 158 = .ok (.iconst (-1), 1) := by decide +kernel
theorem d_X8_begin_159 : decode cX8_begin 159 = .ok (.iastore, 1) := by decide +kernel
theorem d_X8_begin_160 : decode cX8_begin 160 = .ok (.iinc 4 1, 3) := by decide +kernel
theorem d_X8_begin_163 : decode cX8_begin 163 = .ok (.goto (-51), 3) := by decide +kernel
theorem d_X8_begin_166 : decode cX8_begin 166 = .ok (.return_, 1) := by decide +kernel
set_option maxRecDepth 100000 in
theorem L_X8_begin {p : Program} {l : Launch} {e : Env} {s : State} {m : MethodId} {args : Array Value} {below : List Frame} {meth : Method} {c : Code} {D : va_G} {ca : Nat → ClassId} {ad sx sy : Nat → Nat} {A : Nat → Prop} {Q : QT} (C0 : CX p s m args meth c cX8_begin 6 yX8_begin.cls D ca ad A) (hE : EX sx sy A s s.heap) (hr : meth.sig.returnType = none) (hno : ∀ x ∈ c.exceptionTable.toList, False) : R_X8_begin (JW p l e { frames := 13, cells := 0, slots := 6 * 0, locals := 268 } s m args below meth c 6 D ca ad A (vx_MQ below (Qn D ca ad A Q) (Qx D ca ad A Q) args s 0 (6 * 0) A) gz gz true) Q := ⟨s_aln C0 (d_X8_begin_0) hgz (s_aln C0 (d_X8_begin_1) hgz (s_pm C0 (j := 0) (c0 := 8) rfl gX8 tyX8_ok nmX8 (by decide) rfl rfl rfl rfl wg236 (d_X8_begin_2) hgz (s_aln C0 (d_X8_begin_5) hgz (s_aln C0 (d_X8_begin_6) hgz (s_pm C0 (j := 1) (c0 := 8) rfl gX8 tyX8_ok nmX8 (by decide) rfl rfl rfl rfl wg238 (d_X8_begin_7) hgz (s_aln C0 (d_X8_begin_10) hgz (s_gm C0 (j := 0) (c0 := 8) rfl gX8 (by decide) rfl rfl wg236 (d_X8_begin_11) hgz (s_aln C0 (d_X8_begin_14) hgz (s_gr C0 (j := 3) (c0 := 8) rfl gX8 (by decide) rfl rfl wg241 (d_X8_begin_15) hgz (s_iln C0 (d_X8_begin_18) hgz (s_aln C0 (d_X8_begin_19) hgz (s_gr C0 (j := 8) (c0 := 8) rfl gX8 (by decide) rfl rfl wg249 (d_X8_begin_20) hgz (s_callVN C0 hE (c_X6_findThrough l) wg856 wn853 wg855 ws41 wg3 ⟨by decide, by decide⟩ (by decide +kernel) (c0 := 6) rfl ⟨by decide, by decide⟩ ⟨by decide, by decide⟩ (d_X8_begin_23) (fun x hx => (hno x hx).elim) ⟨by decide, by decide⟩ ⟨by decide, by decide⟩ (s_ic C0 (d_X8_begin_26) hgz (s_is C0 (d_X8_begin_27) hgz (fun _ _ _ h => h)) (okn rfl))))))))))))))),
  s_il C0 (d_X8_begin_29) hgz (s_aln C0 (d_X8_begin_31) hgz (s_gm C0 (j := 0) (c0 := 8) rfl gX8 (by decide) rfl rfl wg236 (d_X8_begin_32) hgz (s_giN C0 (j := 3) (c0 := 6) rfl gX6 (by decide) rfl (by decide) wn85 (d_X8_begin_35) hgz (s_cge C0 (d_X8_begin_38) (by decide) hgz hgz (fun _ _ _ h => h) (s_aln C0 (d_X8_begin_41) hgz (s_gm C0 (j := 0) (c0 := 8) rfl gX8 (by decide) rfl rfl wg236 (d_X8_begin_42) hgz (s_grN C0 (j := 6) (c0 := 6) rfl gX6 (by decide) rfl rfl wn106 (d_X8_begin_45) hgz (s_il C0 (d_X8_begin_48) hgz (s_ia C0 (d_X8_begin_50) hgz (s_ic C0 (d_X8_begin_51) hgz (s_cne C0 (d_X8_begin_52) (by decide) hgz hgz (fun _ _ _ h => h) (s_il C0 (d_X8_begin_55) hgz (s_iln C0 (d_X8_begin_57) hgz (s_ceq C0 (d_X8_begin_58) (by decide) hgz hgz (fun _ _ _ h => h) (s_ic C0 (d_X8_begin_61) hgz (s_goto C0 (tgt := 66) (d_X8_begin_62) (by decide) hgz (fun _ _ _ h => h)) (okn rfl)))))) (okn rfl))))))))))),
  s_ic C0 (d_X8_begin_65) hgz (fun _ _ _ h => h) (okn rfl),
  s_is C0 (d_X8_begin_66) hgz (s_aln C0 (d_X8_begin_68) hgz (s_gr C0 (j := 2) (c0 := 8) rfl gX8 (by decide) rfl rfl wg239 (d_X8_begin_69) hgz (s_il C0 (d_X8_begin_72) hgz (s_il C0 (d_X8_begin_74) hgz (s_zeq C0 (d_X8_begin_76) (by decide) hgz hgz (fun _ _ _ h => h) (s_aln C0 (d_X8_begin_79) hgz (s_gm C0 (j := 0) (c0 := 8) rfl gX8 (by decide) rfl rfl wg236 (d_X8_begin_80) hgz (s_grN C0 (j := 4) (c0 := 6) rfl gX6 (by decide) rfl rfl wn93 (d_X8_begin_83) hgz (s_il C0 (d_X8_begin_86) hgz (s_ia C0 (d_X8_begin_88) hgz (s_goto C0 (tgt := 94) (d_X8_begin_89) (by decide) hgz (fun _ _ _ h => h)))))))))))),
  s_bi C0 (d_X8_begin_92) hgz (fun _ _ _ h => h) (okn rfl) rfl,
  s_iax C0 (d_X8_begin_94) hgz (s_aln C0 (d_X8_begin_95) hgz (s_gr C0 (j := 4) (c0 := 8) rfl gX8 (by decide) rfl rfl wg243 (d_X8_begin_96) hgz (s_il C0 (d_X8_begin_99) hgz (s_ic C0 (d_X8_begin_101) hgz (s_iax C0 (d_X8_begin_102) hgz (s_inc C0 (d_X8_begin_103) hgz (s_goto C0 (tgt := 29) (d_X8_begin_106) (by decide) hgz (fun _ _ _ h => h)))) (okn rfl))))),
  s_ic C0 (d_X8_begin_109) hgz (s_is C0 (d_X8_begin_110) hgz (fun _ _ _ h => h)) (okn rfl),
  s_il C0 (d_X8_begin_112) hgz (s_aln C0 (d_X8_begin_114) hgz (s_gm C0 (j := 0) (c0 := 8) rfl gX8 (by decide) rfl rfl wg236 (d_X8_begin_115) hgz (s_giN C0 (j := 0) (c0 := 6) rfl gX6 (by decide) rfl (by decide) wn73 (d_X8_begin_118) hgz (s_cge C0 (d_X8_begin_121) (by decide) hgz hgz (fun _ _ _ h => h) (s_aln C0 (d_X8_begin_124) hgz (s_gr C0 (j := 5) (c0 := 8) rfl gX8 (by decide) rfl rfl wg244 (d_X8_begin_125) hgz (s_il C0 (d_X8_begin_128) hgz (s_ic C0 (d_X8_begin_130) hgz (s_iax C0 (d_X8_begin_131) hgz (s_aln C0 (d_X8_begin_132) hgz (s_gr C0 (j := 6) (c0 := 8) rfl gX8 (by decide) rfl rfl wg245 (d_X8_begin_133) hgz (s_il C0 (d_X8_begin_136) hgz (s_bi C0 (d_X8_begin_138) hgz (s_aln C0 (d_X8_begin_140) hgz (s_gm C0 (j := 0) (c0 := 8) rfl gX8 (by decide) rfl rfl wg236 (d_X8_begin_141) hgz (s_grN C0 (j := 2) (c0 := 6) rfl gX6 (by decide) rfl rfl wn81 (d_X8_begin_144) hgz (s_il C0 (d_X8_begin_147) hgz (s_ia C0 (d_X8_begin_149) hgz (s_mul C0 (d_X8_begin_150) hgz (s_iax C0 (d_X8_begin_151) hgz (s_aln C0 (d_X8_begin_152) hgz (s_gr C0 (j := 7) (c0 := 8) rfl gX8 (by decide) rfl rfl wg247 (d_X8_begin_153) hgz (s_il C0 (d_X8_begin_156) hgz (s_ic C0 (d_X8_begin_158) hgz (s_iax C0 (d_X8_begin_159) hgz (s_inc C0 (d_X8_begin_160) hgz (s_goto C0 (tgt := 112) (d_X8_begin_163) (by decide) hgz (fun _ _ _ h => h)))) (okn rfl)))))))))))) (okn rfl) rfl))))) (okn rfl))))))))),
  s_rv C0 hr (d_X8_begin_166) ⟨by decide, by decide⟩⟩
theorem c_X8_begin (l : Launch) : Ctr l yX8_begin cX8_begin 6 none 13 268 0 (fun sx => (nf G_X8_begin)) := ctr_of (by decide) gz gz ⟨rfl, rfl⟩ (fun p e s m args below meth c D ca ad sx sy A Q as M C0 hE hr hno hF => P_X8_begin (L_X8_begin C0 hE hr hno) hF)
theorem d_X10_rootOf_0 : decode cX10_rootOf 0 = .ok (.iconst 0, 1) := by decide +kernel
theorem d_X10_rootOf_1 : decode cX10_rootOf 1 = .ok (.istore_n 1, 1) := by decide +kernel
theorem d_X10_rootOf_2 : decode cX10_rootOf 2 = .ok (.iconst 1, 1) := by decide +kernel
theorem d_X10_rootOf_3 : decode cX10_rootOf 3 = .ok (.istore_n 2, 1) := by decide +kernel
theorem d_X10_rootOf_4 : decode cX10_rootOf 4 = .ok (.iload_n 2, 1) := by decide +kernel
theorem d_X10_rootOf_5 : decode cX10_rootOf 5 = .ok (.bipush 40, 2) := by decide +kernel
theorem d_X10_rootOf_7 : decode cX10_rootOf 7 = .ok (.if_icmp .gt 18, 3) := by decide +kernel
theorem d_X10_rootOf_10 : decode cX10_rootOf 10 = .ok (.iload_n 2, 1) := by decide +kernel
theorem d_X10_rootOf_11 : decode cX10_rootOf 11 = .ok (.iload_n 2, 1) := by decide +kernel
theorem d_X10_rootOf_12 : decode cX10_rootOf 12 = .ok (.imul, 1) := by decide +kernel
theorem d_X10_rootOf_13 : decode cX10_rootOf 13 = .ok (.iload_n 0, 1) := by decide +kernel
theorem d_X10_rootOf_14 : decode cX10_rootOf 14 = .ok (.if_icmp .gt 11, 3) := by decide +kernel
theorem d_X10_rootOf_17 : decode cX10_rootOf 17 = .ok (.iload_n 2, 1) := by decide +kernel
theorem d_X10_rootOf_18 : decode cX10_rootOf 18 = .ok (.istore_n 1, 1) := by decide +kernel
theorem d_X10_rootOf_19 : decode cX10_rootOf 19 = .ok (.iinc 2 1, 3) := by decide +kernel
theorem d_X10_rootOf_22 : decode cX10_rootOf 22 = .ok (.goto (-18), 3) := by decide +kernel
theorem d_X10_rootOf_25 : decode cX10_rootOf 25 = .ok (.iload_n 1, 1) := by decide +kernel
theorem d_X10_rootOf_26 : decode cX10_rootOf 26 = .ok (.ireturn, 1) := by decide +kernel
set_option maxRecDepth 100000 in
theorem L_X10_rootOf {p : Program} {l : Launch} {e : Env} {s : State} {m : MethodId} {args : Array Value} {below : List Frame} {meth : Method} {c : Code} {D : va_G} {ca : Nat → ClassId} {ad sx sy : Nat → Nat} {A : Nat → Prop} {Q : QT} (C0 : CX p s m args meth c cX10_rootOf 3 yX10_rootOf.cls D ca ad A) (hE : EX sx sy A s s.heap) (hr : meth.sig.returnType = (some .int)) (hno : ∀ x ∈ c.exceptionTable.toList, False) : R_X10_rootOf (JW p l e { frames := 10, cells := 0, slots := 6 * 0, locals := 200 } s m args below meth c 3 D ca ad A (vx_MQ below (Qn D ca ad A Q) (Qx D ca ad A Q) args s 0 (6 * 0) A) gz gz true) Q := ⟨s_ic C0 (d_X10_rootOf_0) hgz (s_isn C0 (d_X10_rootOf_1) hgz (s_ic C0 (d_X10_rootOf_2) hgz (s_isn C0 (d_X10_rootOf_3) hgz (fun _ _ _ h => h)) (okn rfl))) (okn rfl),
  s_iln C0 (d_X10_rootOf_4) hgz (s_bi C0 (d_X10_rootOf_5) hgz (s_cgt C0 (d_X10_rootOf_7) (by decide) hgz hgz (fun _ _ _ h => h) (s_iln C0 (d_X10_rootOf_10) hgz (s_iln C0 (d_X10_rootOf_11) hgz (s_mul C0 (d_X10_rootOf_12) hgz (s_iln C0 (d_X10_rootOf_13) hgz (s_cgt C0 (d_X10_rootOf_14) (by decide) hgz hgz (fun _ _ _ h => h) (s_iln C0 (d_X10_rootOf_17) hgz (s_isn C0 (d_X10_rootOf_18) hgz (s_inc C0 (d_X10_rootOf_19) hgz (s_goto C0 (tgt := 4) (d_X10_rootOf_22) (by decide) hgz (fun _ _ _ h => h))))))))))) (okn rfl) rfl),
  s_iln C0 (d_X10_rootOf_25) hgz (s_ri C0 hr (d_X10_rootOf_26) ⟨by decide, by decide⟩)⟩
theorem c_X10_rootOf (l : Launch) : Ctr l yX10_rootOf cX10_rootOf 3 (some .int) 10 200 0 (fun sx => (nf G_X10_rootOf)) := ctr_of (by decide) gz gz ⟨rfl, rfl⟩ (fun p e s m args below meth c D ca ad sx sy A Q as M C0 hE hr hno hF => P_X10_rootOf (L_X10_rootOf C0 hE hr hno) hF)
theorem d_X10_isIn_0 : decode cX10_isIn 0 = .ok (.iload_n 1, 1) := by decide +kernel
theorem d_X10_isIn_1 : decode cX10_isIn 1 = .ok (.iload_n 0, 1) := by decide +kernel
theorem d_X10_isIn_2 : decode cX10_isIn 2 = .ok (.ishr, 1) := by decide +kernel
theorem d_X10_isIn_3 : decode cX10_isIn 3 = .ok (.iconst 1, 1) := by decide +kernel
theorem d_X10_isIn_4 : decode cX10_isIn 4 = .ok (.iand, 1) := by decide +kernel
theorem d_X10_isIn_5 : decode cX10_isIn 5 = .ok (.iconst 1, 1) := by decide +kernel
theorem d_X10_isIn_6 : decode cX10_isIn 6 = .ok (.if_icmp .ne 7, 3) := by decide +kernel
theorem d_X10_isIn_9 : decode cX10_isIn 9 = .ok (.iconst 1, 1) := by decide +kernel
theorem d_X10_isIn_10 : decode cX10_isIn 10 = .ok (.goto 4, 3) := by decide +kernel
theorem d_X10_isIn_13 : decode cX10_isIn 13 = .ok (.iconst 0, 1) := by decide +kernel
theorem d_X10_isIn_14 : decode cX10_isIn 14 = .ok (.ireturn, 1) := by decide +kernel
set_option maxRecDepth 100000 in
theorem L_X10_isIn {p : Program} {l : Launch} {e : Env} {s : State} {m : MethodId} {args : Array Value} {below : List Frame} {meth : Method} {c : Code} {D : va_G} {ca : Nat → ClassId} {ad sx sy : Nat → Nat} {A : Nat → Prop} {Q : QT} (C0 : CX p s m args meth c cX10_isIn 2 yX10_isIn.cls D ca ad A) (hE : EX sx sy A s s.heap) (hr : meth.sig.returnType = (some .boolean)) (hno : ∀ x ∈ c.exceptionTable.toList, False) : R_X10_isIn (JW p l e { frames := 10, cells := 0, slots := 6 * 0, locals := 200 } s m args below meth c 2 D ca ad A (vx_MQ below (Qn D ca ad A Q) (Qx D ca ad A Q) args s 0 (6 * 0) A) gz gz true) Q := ⟨s_iln C0 (d_X10_isIn_0) hgz (s_iln C0 (d_X10_isIn_1) hgz (s_shr C0 (d_X10_isIn_2) hgz (s_ic C0 (d_X10_isIn_3) hgz (s_and C0 (d_X10_isIn_4) hgz (s_ic C0 (d_X10_isIn_5) hgz (s_cne C0 (d_X10_isIn_6) (by decide) hgz hgz (fun _ _ _ h => h) (s_ic C0 (d_X10_isIn_9) hgz (s_goto C0 (tgt := 14) (d_X10_isIn_10) (by decide) hgz (fun _ _ _ h => h)) (okn rfl))) (okn rfl))) (okn rfl)))),
  s_ic C0 (d_X10_isIn_13) hgz (fun _ _ _ h => h) (okn rfl),
  s_rz C0 hr (d_X10_isIn_14) ⟨by decide, by decide⟩⟩
theorem c_X10_isIn (l : Launch) : Ctr l yX10_isIn cX10_isIn 2 (some .boolean) 10 200 0 (fun sx => (nf G_X10_isIn)) := ctr_of (by decide) gz gz ⟨rfl, rfl⟩ (fun p e s m args below meth c D ca ad sx sy A Q as M C0 hE hr hno hF => P_X10_isIn (L_X10_isIn C0 hE hr hno) hF)
theorem wg491 : Cond.code ⟨"WeighedHall", "isIn", "(II)Z"⟩ prog_1_method_40_code 2 (Option.some .boolean) ∈ GT := gt_mem 611 (by decide +kernel) rfl
theorem wn918 : Cond.methodLinkNest "WeighedHall$Sitting" 124 ⟨"WeighedHall", "isIn", "(II)Z"⟩ "WeighedHall" ∈ NT := nt_mem 918 (by decide +kernel) rfl
theorem wg490 : Cond.static ⟨"WeighedHall", "isIn", "(II)Z"⟩ ∈ GT := gt_mem 610 (by decide +kernel) rfl
theorem wg921 : Cond.code ⟨"WeighedHall", "rootOf", "(I)I"⟩ prog_1_method_44_code 3 (Option.some .int) ∈ GT := gt_mem 1041 (by decide +kernel) rfl
theorem wn919 : Cond.methodLinkNest "WeighedHall$Sitting" 128 ⟨"WeighedHall", "rootOf", "(I)I"⟩ "WeighedHall" ∈ NT := nt_mem 919 (by decide +kernel) rfl
theorem wg920 : Cond.static ⟨"WeighedHall", "rootOf", "(I)I"⟩ ∈ GT := gt_mem 1040 (by decide +kernel) rfl
theorem d_X8_countOf_0 : decode cX8_countOf 0 = .ok (.iconst 0, 1) := by decide +kernel
theorem d_X8_countOf_1 : decode cX8_countOf 1 = .ok (.istore_n 3, 1) := by decide +kernel
theorem d_X8_countOf_2 : decode cX8_countOf 2 = .ok (.iconst 0, 1) := by decide +kernel
theorem d_X8_countOf_3 : decode cX8_countOf 3 = .ok (.istore 4, 2) := by decide +kernel
theorem d_X8_countOf_5 : decode cX8_countOf 5 = .ok (.iload 4, 2) := by decide +kernel
theorem d_X8_countOf_7 : decode cX8_countOf 7 = .ok (.aload_n 0, 1) := by decide +kernel
theorem d_X8_countOf_8 : decode cX8_countOf 8 = .ok (.getfield 12, 3) := by decide +kernel
theorem d_X8_countOf_11 : decode cX8_countOf 11 = .ok (.getfield 61, 3) := by decide +kernel
theorem d_X8_countOf_14 : decode cX8_countOf 14 = .ok (.if_icmp .ge 54, 3) := by decide +kernel
theorem d_X8_countOf_17 : decode cX8_countOf 17 = .ok (.iload 4, 2) := by decide +kernel
theorem d_X8_countOf_19 : decode cX8_countOf 19 = .ok (.iload_n 1, 1) := by decide +kernel
theorem d_X8_countOf_20 : decode cX8_countOf 20 = .ok (.invokestatic 124, 3) := by decide +kernel
theorem d_X8_countOf_23 : decode cX8_countOf 23 = .ok (.ifCond .eq 39, 3) := by decide +kernel
theorem d_X8_countOf_26 : decode cX8_countOf 26 = .ok (.iload_n 3, 1) := by decide +kernel
theorem d_X8_countOf_27 : decode cX8_countOf 27 = .ok (.iload_n 2, 1) := by decide +kernel
theorem d_X8_countOf_28 : decode cX8_countOf 28 = .ok (.iconst 2, 1) := by decide +kernel
theorem d_X8_countOf_29 : decode cX8_countOf 29 = .ok (.if_icmp .ne 7, 3) := by decide +kernel
theorem d_X8_countOf_32 : decode cX8_countOf 32 = .ok (.iconst 1, 1) := by decide +kernel
theorem d_X8_countOf_33 : decode cX8_countOf 33 = .ok (.goto 27, 3) := by decide +kernel
theorem d_X8_countOf_36 : decode cX8_countOf 36 = .ok (.iload_n 2, 1) := by decide +kernel
theorem d_X8_countOf_37 : decode cX8_countOf 37 = .ok (.ifCond .ne 13, 3) := by decide +kernel
theorem d_X8_countOf_40 : decode cX8_countOf 40 = .ok (.aload_n 0, 1) := by decide +kernel
theorem d_X8_countOf_41 : decode cX8_countOf 41 = .ok (.getfield 35, 3) := by decide +kernel
theorem d_X8_countOf_44 : decode cX8_countOf 44 = .ok (.iload 4, 2) := by decide +kernel
theorem d_X8_countOf_46 : decode cX8_countOf 46 = .ok (.iaload, 1) := by decide +kernel
theorem d_X8_countOf_47 : decode cX8_countOf 47 = .ok (.goto 13, 3) := by decide +kernel
theorem d_X8_countOf_50 : decode cX8_countOf 50 = .ok (.aload_n 0, 1) := by decide +kernel
theorem d_X8_countOf_51 : decode cX8_countOf 51 = .ok (.getfield 35, 3) := by decide +kernel
theorem d_X8_countOf_54 : decode cX8_countOf 54 = .ok (.iload 4, 2) := by decide +kernel
theorem d_X8_countOf_56 : decode cX8_countOf 56 = .ok (.iaload, 1) := by decide +kernel
theorem d_X8_countOf_57 : decode cX8_countOf 57 = .ok (.invokestatic 128, 3) := by decide +kernel
theorem d_X8_countOf_60 : decode cX8_countOf 60 = .ok (.iadd, 1) := by decide +kernel
theorem d_X8_countOf_61 : decode cX8_countOf 61 = .ok (.istore_n 3, 1) := by decide +kernel
theorem d_X8_countOf_62 : decode cX8_countOf 62 = .ok (.iinc 4 1, 3) := by decide +kernel
theorem d_X8_countOf_65 : decode cX8_countOf 65 = .ok (.goto (-60), 3) := by decide +kernel
theorem d_X8_countOf_68 : decode cX8_countOf 68 = .ok (.iload_n 3, 1) := by decide +kernel
theorem d_X8_countOf_69 : decode cX8_countOf 69 = .ok (.ireturn, 1) := by decide +kernel
set_option maxRecDepth 100000 in
theorem L_X8_countOf {p : Program} {l : Launch} {e : Env} {s : State} {m : MethodId} {args : Array Value} {below : List Frame} {meth : Method} {c : Code} {D : va_G} {ca : Nat → ClassId} {ad sx sy : Nat → Nat} {A : Nat → Prop} {Q : QT} (C0 : CX p s m args meth c cX8_countOf 5 yX8_countOf.cls D ca ad A) (hE : EX sx sy A s s.heap) (hr : meth.sig.returnType = (some .int)) (hno : ∀ x ∈ c.exceptionTable.toList, False) : R_X8_countOf (JW p l e { frames := 11, cells := 0, slots := 6 * 0, locals := 222 } s m args below meth c 5 D ca ad A (vx_MQ below (Qn D ca ad A Q) (Qx D ca ad A Q) args s 0 (6 * 0) A) gz gz true) Q := ⟨s_ic C0 (d_X8_countOf_0) hgz (s_isn C0 (d_X8_countOf_1) hgz (s_ic C0 (d_X8_countOf_2) hgz (s_is C0 (d_X8_countOf_3) hgz (fun _ _ _ h => h)) (okn rfl))) (okn rfl),
  s_il C0 (d_X8_countOf_5) hgz (s_aln C0 (d_X8_countOf_7) hgz (s_gm C0 (j := 0) (c0 := 8) rfl gX8 (by decide) rfl rfl wg236 (d_X8_countOf_8) hgz (s_giN C0 (j := 0) (c0 := 6) rfl gX6 (by decide) rfl (by decide) wn73 (d_X8_countOf_11) hgz (s_cge C0 (d_X8_countOf_14) (by decide) hgz hgz (fun _ _ _ h => h) (s_il C0 (d_X8_countOf_17) hgz (s_iln C0 (d_X8_countOf_19) hgz (s_callSN C0 hE (c_X10_isIn l) wg491 wn918 wg490 wg1 ⟨by decide, by decide⟩ (by decide +kernel) ⟨by decide, by decide⟩ ⟨by decide, by decide⟩ (d_X8_countOf_20) (fun x hx => (hno x hx).elim) ⟨by decide, by decide⟩ ⟨by decide, by decide⟩ (s_zeq C0 (d_X8_countOf_23) (by decide) hgz hgz (fun _ _ _ h => h) (s_iln C0 (d_X8_countOf_26) hgz (s_iln C0 (d_X8_countOf_27) hgz (s_ic C0 (d_X8_countOf_28) hgz (s_cne C0 (d_X8_countOf_29) (by decide) hgz hgz (fun _ _ _ h => h) (s_ic C0 (d_X8_countOf_32) hgz (s_goto C0 (tgt := 60) (d_X8_countOf_33) (by decide) hgz (fun _ _ _ h => h)) (okn rfl))) (okn rfl)))))))))))),
  s_iln C0 (d_X8_countOf_36) hgz (s_zne C0 (d_X8_countOf_37) (by decide) hgz hgz (fun _ _ _ h => h) (s_aln C0 (d_X8_countOf_40) hgz (s_gr C0 (j := 5) (c0 := 8) rfl gX8 (by decide) rfl rfl wg244 (d_X8_countOf_41) hgz (s_il C0 (d_X8_countOf_44) hgz (s_ia C0 (d_X8_countOf_46) hgz (s_goto C0 (tgt := 60) (d_X8_countOf_47) (by decide) hgz (fun _ _ _ h => h))))))),
  s_aln C0 (d_X8_countOf_50) hgz (s_gr C0 (j := 5) (c0 := 8) rfl gX8 (by decide) rfl rfl wg244 (d_X8_countOf_51) hgz (s_il C0 (d_X8_countOf_54) hgz (s_ia C0 (d_X8_countOf_56) hgz (s_callSN C0 hE (c_X10_rootOf l) wg921 wn919 wg920 wg1 ⟨by decide, by decide⟩ (by decide +kernel) ⟨by decide, by decide⟩ ⟨by decide, by decide⟩ (d_X8_countOf_57) (fun x hx => (hno x hx).elim) ⟨by decide, by decide⟩ ⟨by decide, by decide⟩ (fun _ _ _ h => h))))),
  s_add C0 (d_X8_countOf_60) hgz (s_isn C0 (d_X8_countOf_61) hgz (fun _ _ _ h => h)),
  s_inc C0 (d_X8_countOf_62) hgz (s_goto C0 (tgt := 5) (d_X8_countOf_65) (by decide) hgz (fun _ _ _ h => h)),
  s_iln C0 (d_X8_countOf_68) hgz (s_ri C0 hr (d_X8_countOf_69) ⟨by decide, by decide⟩)⟩
theorem c_X8_countOf (l : Launch) : Ctr l yX8_countOf cX8_countOf 5 (some .int) 11 222 0 (fun sx => (nf G_X8_countOf)) := ctr_of (by decide) gz gz ⟨rfl, rfl⟩ (fun p e s m args below meth c D ca ad sx sy A Q as M C0 hE hr hno hF => P_X8_countOf (L_X8_countOf C0 hE hr hno) hF)
theorem d_X3_placeOf_0 : decode cX3_placeOf 0 = .ok (.iload_n 0, 1) := by decide +kernel
theorem d_X3_placeOf_1 : decode cX3_placeOf 1 = .ok (.iconst 3, 1) := by decide +kernel
theorem d_X3_placeOf_2 : decode cX3_placeOf 2 = .ok (.imul, 1) := by decide +kernel
theorem d_X3_placeOf_3 : decode cX3_placeOf 3 = .ok (.iload_n 1, 1) := by decide +kernel
theorem d_X3_placeOf_4 : decode cX3_placeOf 4 = .ok (.iadd, 1) := by decide +kernel
theorem d_X3_placeOf_5 : decode cX3_placeOf 5 = .ok (.iconst 2, 1) := by decide +kernel
theorem d_X3_placeOf_6 : decode cX3_placeOf 6 = .ok (.imul, 1) := by decide +kernel
theorem d_X3_placeOf_7 : decode cX3_placeOf 7 = .ok (.iload_n 2, 1) := by decide +kernel
theorem d_X3_placeOf_8 : decode cX3_placeOf 8 = .ok (.iadd, 1) := by decide +kernel
theorem d_X3_placeOf_9 : decode cX3_placeOf 9 = .ok (.ireturn, 1) := by decide +kernel
set_option maxRecDepth 100000 in
theorem L_X3_placeOf {p : Program} {l : Launch} {e : Env} {s : State} {m : MethodId} {args : Array Value} {below : List Frame} {meth : Method} {c : Code} {D : va_G} {ca : Nat → ClassId} {ad sx sy : Nat → Nat} {A : Nat → Prop} {Q : QT} (C0 : CX p s m args meth c cX3_placeOf 3 yX3_placeOf.cls D ca ad A) (hE : EX sx sy A s s.heap) (hr : meth.sig.returnType = (some .int)) (hno : ∀ x ∈ c.exceptionTable.toList, False) : R_X3_placeOf (JW p l e { frames := 10, cells := 0, slots := 6 * 0, locals := 200 } s m args below meth c 3 D ca ad A (vx_MQ below (Qn D ca ad A Q) (Qx D ca ad A Q) args s 0 (6 * 0) A) gz gz true) Q := s_iln C0 (d_X3_placeOf_0) hgz (s_ic C0 (d_X3_placeOf_1) hgz (s_mul C0 (d_X3_placeOf_2) hgz (s_iln C0 (d_X3_placeOf_3) hgz (s_add C0 (d_X3_placeOf_4) hgz (s_ic C0 (d_X3_placeOf_5) hgz (s_mul C0 (d_X3_placeOf_6) hgz (s_iln C0 (d_X3_placeOf_7) hgz (s_add C0 (d_X3_placeOf_8) hgz (s_ri C0 hr (d_X3_placeOf_9) ⟨by decide, by decide⟩)))) (okn rfl))))) (okn rfl))
theorem c_X3_placeOf (l : Launch) : Ctr l yX3_placeOf cX3_placeOf 3 (some .int) 10 200 0 (fun sx => (nf G_X3_placeOf)) := ctr_of (by decide) gz gz ⟨rfl, rfl⟩ (fun p e s m args below meth c D ca ad sx sy A Q as M C0 hE hr hno hF => P_X3_placeOf (L_X3_placeOf C0 hE hr hno) hF)
theorem wn237 : Cond.fieldLinkNest "WeighedHall$Chronicle" 56 "WeighedHall$Sitting" "plan" "LWeighedHall$Plan;" "WeighedHall" ∈ NT := nt_mem 237 (by decide +kernel) rfl
theorem wg269 : Cond.fieldLink "WeighedHall$Chronicle" 12 "WeighedHall$Chronicle" "sitting" "LWeighedHall$Sitting;" ∈ GT := gt_mem 389 (by decide +kernel) rfl
theorem wn120 : Cond.fieldLinkNest "WeighedHall$Chronicle" 66 "WeighedHall$Plan" "minute" "[I" "WeighedHall" ∈ NT := nt_mem 120 (by decide +kernel) rfl
theorem wn116 : Cond.fieldLinkNest "WeighedHall$Chronicle" 60 "WeighedHall$Plan" "motions" "I" "WeighedHall" ∈ NT := nt_mem 116 (by decide +kernel) rfl
theorem wg917 : Cond.code ⟨"WeighedHall$Sitting", "countOf", "(II)I"⟩ prog_10_method_13_code 5 (Option.some .int) ∈ GT := gt_mem 1037 (by decide +kernel) rfl
theorem wg7 : Cond.initialized "WeighedHall$Sitting" ∈ GT := gt_mem 127 (by decide +kernel) rfl
theorem wn914 : Cond.methodLinkNest "WeighedHall$Chronicle" 76 ⟨"WeighedHall$Sitting", "countOf", "(II)I"⟩ "WeighedHall" ∈ NT := nt_mem 914 (by decide +kernel) rfl
theorem wg916 : Cond.instanceMethod ⟨"WeighedHall$Sitting", "countOf", "(II)I"⟩ ∈ GT := gt_mem 1036 (by decide +kernel) rfl
theorem ws53 : Cond.selects "WeighedHall$Sitting" ⟨"WeighedHall$Sitting", "countOf", "(II)I"⟩ ⟨"WeighedHall$Sitting", "countOf", "(II)I"⟩ ∈ GT := gt_mem 53 (by decide +kernel) rfl
theorem wn129 : Cond.fieldLinkNest "WeighedHall$Chronicle" 80 "WeighedHall$Plan" "con" "[I" "WeighedHall" ∈ NT := nt_mem 129 (by decide +kernel) rfl
theorem wg913 : Cond.code ⟨"WeighedHall$Chronicle", "placeOf", "(III)I"⟩ prog_5_method_4_code 3 (Option.some .int) ∈ GT := gt_mem 1033 (by decide +kernel) rfl
theorem wg6 : Cond.initialized "WeighedHall$Chronicle" ∈ GT := gt_mem 126 (by decide +kernel) rfl
theorem wg911 : Cond.methodLink "WeighedHall$Chronicle" 69 ⟨"WeighedHall$Chronicle", "placeOf", "(III)I"⟩ ∈ GT := gt_mem 1031 (by decide +kernel) rfl
theorem wg912 : Cond.static ⟨"WeighedHall$Chronicle", "placeOf", "(III)I"⟩ ∈ GT := gt_mem 1032 (by decide +kernel) rfl
theorem wg273 : Cond.fieldLink "WeighedHall$Chronicle" 25 "WeighedHall$Chronicle" "counts" "[I" ∈ GT := gt_mem 393 (by decide +kernel) rfl
theorem wn126 : Cond.fieldLinkNest "WeighedHall$Chronicle" 73 "WeighedHall$Plan" "pro" "[I" "WeighedHall" ∈ NT := nt_mem 126 (by decide +kernel) rfl
theorem d_X3_countMotionsOf_0 : decode cX3_countMotionsOf 0 = .ok (.aload_n 0, 1) := by decide +kernel
theorem d_X3_countMotionsOf_1 : decode cX3_countMotionsOf 1 = .ok (.getfield 12, 3) := by decide +kernel
theorem d_X3_countMotionsOf_4 : decode cX3_countMotionsOf 4 = .ok (.getfield 56, 3) := by decide +kernel
theorem d_X3_countMotionsOf_7 : decode cX3_countMotionsOf 7 = .ok (.astore_n 2, 1) := by decide +kernel
theorem d_X3_countMotionsOf_8 : decode cX3_countMotionsOf 8 = .ok (.iconst 0, 1) := by decide +kernel
theorem d_X3_countMotionsOf_9 : decode cX3_countMotionsOf 9 = .ok (.istore_n 3, 1) := by decide +kernel
theorem d_X3_countMotionsOf_10 : decode cX3_countMotionsOf 10 = .ok (.iload_n 3, 1) := by decide +kernel
theorem d_X3_countMotionsOf_11 : decode cX3_countMotionsOf 11 = .ok (.aload_n 2, 1) := by decide +kernel
theorem d_X3_countMotionsOf_12 : decode cX3_countMotionsOf 12 = .ok (.getfield 60, 3) := by decide +kernel
theorem d_X3_countMotionsOf_15 : decode cX3_countMotionsOf 15 = .ok (.if_icmp .ge 88, 3) := by decide +kernel
theorem d_X3_countMotionsOf_18 : decode cX3_countMotionsOf 18 = .ok (.aload_n 2, 1) := by decide +kernel
theorem d_X3_countMotionsOf_19 : decode cX3_countMotionsOf 19 = .ok (.getfield 66, 3) := by decide +kernel
theorem d_X3_countMotionsOf_22 : decode cX3_countMotionsOf 22 = .ok (.iload_n 3, 1) := by decide +kernel
theorem d_X3_countMotionsOf_23 : decode cX3_countMotionsOf 23 = .ok (.iaload, 1) := by decide +kernel
theorem d_X3_countMotionsOf_24 : decode cX3_countMotionsOf 24 = .ok (.iload_n 1, 1) := by decide +kernel
theorem d_X3_countMotionsOf_25 : decode cX3_countMotionsOf 25 = .ok (.if_icmp .ne 72, 3) := by decide +kernel
theorem d_X3_countMotionsOf_28 : decode cX3_countMotionsOf 28 = .ok (.iconst 0, 1) := by decide +kernel
theorem d_X3_countMotionsOf_29 : decode cX3_countMotionsOf 29 = .ok (.istore 4, 2) := by decide +kernel
theorem d_X3_countMotionsOf_31 : decode cX3_countMotionsOf 31 = .ok (.iload 4, 2) := by decide +kernel
theorem d_X3_countMotionsOf_33 : decode cX3_countMotionsOf 33 = .ok (.iconst 3, 1) := by decide +kernel
theorem d_X3_countMotionsOf_34 : decode cX3_countMotionsOf 34 = .ok (.if_icmp .ge 63, 3) := by decide +kernel
theorem d_X3_countMotionsOf_37 : decode cX3_countMotionsOf 37 = .ok (.aload_n 0, 1) := by decide +kernel
theorem d_X3_countMotionsOf_38 : decode cX3_countMotionsOf 38 = .ok (.getfield 25, 3) := by decide +kernel
theorem d_X3_countMotionsOf_41 : decode cX3_countMotionsOf 41 = .ok (.iload_n 3, 1) := by decide +kernel
theorem d_X3_countMotionsOf_42 : decode cX3_countMotionsOf 42 = .ok (.iload 4, 2) := by decide +kernel
theorem d_X3_countMotionsOf_44 : decode cX3_countMotionsOf 44 = .ok (.iconst 0, 1) := by decide +kernel
theorem d_X3_countMotionsOf_45 : decode cX3_countMotionsOf 45 = .ok (.invokestatic 69, 3) := by decide +kernel
theorem d_X3_countMotionsOf_48 : decode cX3_countMotionsOf 48 = .ok (.aload_n 0, 1) := by decide +kernel
theorem d_X3_countMotionsOf_49 : decode cX3_countMotionsOf 49 = .ok (.getfield 12, 3) := by decide +kernel
theorem d_X3_countMotionsOf_52 : decode cX3_countMotionsOf 52 = .ok (.aload_n 2, 1) := by decide +kernel
theorem d_X3_countMotionsOf_53 : decode cX3_countMotionsOf 53 = .ok (.getfield 73, 3) := by decide +kernel
theorem d_X3_countMotionsOf_56 : decode cX3_countMotionsOf 56 = .ok (.iload_n 3, 1) := by decide +kernel
theorem d_X3_countMotionsOf_57 : decode cX3_countMotionsOf 57 = .ok (.iaload, 1) := by decide +kernel
theorem d_X3_countMotionsOf_58 : decode cX3_countMotionsOf 58 = .ok (.iload 4, 2) := by decide +kernel
theorem d_X3_countMotionsOf_60 : decode cX3_countMotionsOf 60 = .ok (.invokevirtual 76, 3) := by decide +kernel
theorem d_X3_countMotionsOf_63 : decode cX3_countMotionsOf 63 = .ok (.iastore, 1) := by decide +kernel
theorem d_X3_countMotionsOf_64 : decode cX3_countMotionsOf 64 = .ok (.aload_n 0, 1) := by decide +kernel
theorem d_X3_countMotionsOf_65 : decode cX3_countMotionsOf 65 = .ok (.getfield 25, 3) := by decide +kernel
theorem d_X3_countMotionsOf_68 : decode cX3_countMotionsOf 68 = .ok (.iload_n 3, 1) := by decide +kernel
theorem d_X3_countMotionsOf_69 : decode cX3_countMotionsOf 69 = .ok (.iload 4, 2) := by decide +kernel
theorem d_X3_countMotionsOf_71 : decode cX3_countMotionsOf 71 = .ok (.iconst 1, 1) := by decide +kernel
theorem d_X3_countMotionsOf_72 : decode cX3_countMotionsOf 72 = .ok (.invokestatic 69, 3) := by decide +kernel
theorem d_X3_countMotionsOf_75 : decode cX3_countMotionsOf 75 = .ok (.aload_n 0, 1) := by decide +kernel
theorem d_X3_countMotionsOf_76 : decode cX3_countMotionsOf 76 = .ok (.getfield 12, 3) := by decide +kernel
theorem d_X3_countMotionsOf_79 : decode cX3_countMotionsOf 79 = .ok (.aload_n 2, 1) := by decide +kernel
theorem d_X3_countMotionsOf_80 : decode cX3_countMotionsOf 80 = .ok (.getfield 80, 3) := by decide +kernel
theorem d_X3_countMotionsOf_83 : decode cX3_countMotionsOf 83 = .ok (.iload_n 3, 1) := by decide +kernel
theorem d_X3_countMotionsOf_84 : decode cX3_countMotionsOf 84 = .ok (.iaload, 1) := by decide +kernel
theorem d_X3_countMotionsOf_85 : decode cX3_countMotionsOf 85 = .ok (.iload 4, 2) := by decide +kernel
theorem d_X3_countMotionsOf_87 : decode cX3_countMotionsOf 87 = .ok (.invokevirtual 76, 3) := by decide +kernel
theorem d_X3_countMotionsOf_90 : decode cX3_countMotionsOf 90 = .ok (.iastore, 1) := by decide +kernel
theorem d_X3_countMotionsOf_91 : decode cX3_countMotionsOf 91 = .ok (.iinc 4 1, 3) := by decide +kernel
theorem d_X3_countMotionsOf_94 : decode cX3_countMotionsOf 94 = .ok (.goto (-63), 3) := by decide +kernel
theorem d_X3_countMotionsOf_97 : decode cX3_countMotionsOf 97 = .ok (.iinc 3 1, 3) := by decide +kernel
theorem d_X3_countMotionsOf_100 : decode cX3_countMotionsOf 100 = .ok (.goto (-90), 3) := by decide +kernel
theorem d_X3_countMotionsOf_103 : decode cX3_countMotionsOf 103 = .ok (.return_, 1) := by decide +kernel
set_option maxRecDepth 100000 in
theorem L_X3_countMotionsOf {p : Program} {l : Launch} {e : Env} {s : State} {m : MethodId} {args : Array Value} {below : List Frame} {meth : Method} {c : Code} {D : va_G} {ca : Nat → ClassId} {ad sx sy : Nat → Nat} {A : Nat → Prop} {Q : QT} (C0 : CX p s m args meth c cX3_countMotionsOf 5 yX3_countMotionsOf.cls D ca ad A) (hE : EX sx sy A s s.heap) (hr : meth.sig.returnType = none) (hno : ∀ x ∈ c.exceptionTable.toList, False) : R_X3_countMotionsOf (JW p l e { frames := 12, cells := 0, slots := 6 * 0, locals := 246 } s m args below meth c 5 D ca ad A (vx_MQ below (Qn D ca ad A Q) (Qx D ca ad A Q) args s 0 (6 * 0) A) gz gz true) Q := ⟨s_aln C0 (d_X3_countMotionsOf_0) hgz (s_gr C0 (j := 0) (c0 := 3) rfl gX3 (by decide) rfl rfl wg269 (d_X3_countMotionsOf_1) hgz (s_gmN C0 (j := 0) (c0 := 8) rfl gX8 (by decide) rfl rfl wn237 (d_X3_countMotionsOf_4) hgz (s_asn C0 (d_X3_countMotionsOf_7) hgz (s_ic C0 (d_X3_countMotionsOf_8) hgz (s_isn C0 (d_X3_countMotionsOf_9) hgz (fun _ _ _ h => h)) (okn rfl))))),
  s_iln C0 (d_X3_countMotionsOf_10) hgz (s_aln C0 (d_X3_countMotionsOf_11) hgz (s_giN C0 (j := 10) (c0 := 6) rfl gX6 (by decide) rfl (by decide) wn116 (d_X3_countMotionsOf_12) hgz (s_cge C0 (d_X3_countMotionsOf_15) (by decide) hgz hgz (fun _ _ _ h => h) (s_aln C0 (d_X3_countMotionsOf_18) hgz (s_grN C0 (j := 11) (c0 := 6) rfl gX6 (by decide) rfl rfl wn120 (d_X3_countMotionsOf_19) hgz (s_iln C0 (d_X3_countMotionsOf_22) hgz (s_ia C0 (d_X3_countMotionsOf_23) hgz (s_iln C0 (d_X3_countMotionsOf_24) hgz (s_cne C0 (d_X3_countMotionsOf_25) (by decide) hgz hgz (fun _ _ _ h => h) (s_ic C0 (d_X3_countMotionsOf_28) hgz (s_is C0 (d_X3_countMotionsOf_29) hgz (fun _ _ _ h => h)) (okn rfl))))))))))),
  s_il C0 (d_X3_countMotionsOf_31) hgz (s_ic C0 (d_X3_countMotionsOf_33) hgz (s_cge C0 (d_X3_countMotionsOf_34) (by decide) hgz hgz (fun _ _ _ h => h) (s_aln C0 (d_X3_countMotionsOf_37) hgz (s_gr C0 (j := 3) (c0 := 3) rfl gX3 (by decide) rfl rfl wg273 (d_X3_countMotionsOf_38) hgz (s_iln C0 (d_X3_countMotionsOf_41) hgz (s_il C0 (d_X3_countMotionsOf_42) hgz (s_ic C0 (d_X3_countMotionsOf_44) hgz (s_callS C0 hE (c_X3_placeOf l) wg913 wg911 wg912 wg6 ⟨by decide, by decide⟩ (by decide +kernel) ⟨by decide, by decide⟩ ⟨by decide, by decide⟩ (d_X3_countMotionsOf_45) (fun x hx => (hno x hx).elim) ⟨by decide, by decide⟩ ⟨by decide, by decide⟩ (s_aln C0 (d_X3_countMotionsOf_48) hgz (s_gr C0 (j := 0) (c0 := 3) rfl gX3 (by decide) rfl rfl wg269 (d_X3_countMotionsOf_49) hgz (s_aln C0 (d_X3_countMotionsOf_52) hgz (s_grN C0 (j := 12) (c0 := 6) rfl gX6 (by decide) rfl rfl wn126 (d_X3_countMotionsOf_53) hgz (s_iln C0 (d_X3_countMotionsOf_56) hgz (s_ia C0 (d_X3_countMotionsOf_57) hgz (s_il C0 (d_X3_countMotionsOf_58) hgz (s_callVN C0 hE (c_X8_countOf l) wg917 wn914 wg916 ws53 wg7 ⟨by decide, by decide⟩ (by decide +kernel) (c0 := 8) rfl ⟨by decide, by decide⟩ ⟨by decide, by decide⟩ (d_X3_countMotionsOf_60) (fun x hx => (hno x hx).elim) ⟨by decide, by decide⟩ ⟨by decide, by decide⟩ (s_iax C0 (d_X3_countMotionsOf_63) hgz (s_aln C0 (d_X3_countMotionsOf_64) hgz (s_gr C0 (j := 3) (c0 := 3) rfl gX3 (by decide) rfl rfl wg273 (d_X3_countMotionsOf_65) hgz (s_iln C0 (d_X3_countMotionsOf_68) hgz (s_il C0 (d_X3_countMotionsOf_69) hgz (s_ic C0 (d_X3_countMotionsOf_71) hgz (s_callS C0 hE (c_X3_placeOf l) wg913 wg911 wg912 wg6 ⟨by decide, by decide⟩ (by decide +kernel) ⟨by decide, by decide⟩ ⟨by decide, by decide⟩ (d_X3_countMotionsOf_72) (fun x hx => (hno x hx).elim) ⟨by decide, by decide⟩ ⟨by decide, by decide⟩ (s_aln C0 (d_X3_countMotionsOf_75) hgz (s_gr C0 (j := 0) (c0 := 3) rfl gX3 (by decide) rfl rfl wg269 (d_X3_countMotionsOf_76) hgz (s_aln C0 (d_X3_countMotionsOf_79) hgz (s_grN C0 (j := 13) (c0 := 6) rfl gX6 (by decide) rfl rfl wn129 (d_X3_countMotionsOf_80) hgz (s_iln C0 (d_X3_countMotionsOf_83) hgz (s_ia C0 (d_X3_countMotionsOf_84) hgz (s_il C0 (d_X3_countMotionsOf_85) hgz (s_callVN C0 hE (c_X8_countOf l) wg917 wn914 wg916 ws53 wg7 ⟨by decide, by decide⟩ (by decide +kernel) (c0 := 8) rfl ⟨by decide, by decide⟩ ⟨by decide, by decide⟩ (d_X3_countMotionsOf_87) (fun x hx => (hno x hx).elim) ⟨by decide, by decide⟩ ⟨by decide, by decide⟩ (s_iax C0 (d_X3_countMotionsOf_90) hgz (s_inc C0 (d_X3_countMotionsOf_91) hgz (s_goto C0 (tgt := 31) (d_X3_countMotionsOf_94) (by decide) hgz (fun _ _ _ h => h))))))))))))) (okn rfl)))))))))))))))) (okn rfl))))))) (okn rfl)),
  s_inc C0 (d_X3_countMotionsOf_97) hgz (s_goto C0 (tgt := 10) (d_X3_countMotionsOf_100) (by decide) hgz (fun _ _ _ h => h)),
  s_rv C0 hr (d_X3_countMotionsOf_103) ⟨by decide, by decide⟩⟩
theorem c_X3_countMotionsOf (l : Launch) : Ctr l yX3_countMotionsOf cX3_countMotionsOf 5 none 12 246 0 (fun sx => (nf G_X3_countMotionsOf)) := ctr_of (by decide) gz gz ⟨rfl, rfl⟩ (fun p e s m args below meth c D ca ad sx sy A Q as M C0 hE hr hno hF => P_X3_countMotionsOf (L_X3_countMotionsOf C0 hE hr hno) hF)
theorem d_X8_isSpent_0 : decode cX8_isSpent 0 = .ok (.iload_n 1, 1) := by decide +kernel
theorem d_X8_isSpent_1 : decode cX8_isSpent 1 = .ok (.ifCond .lt 23, 3) := by decide +kernel
theorem d_X8_isSpent_4 : decode cX8_isSpent 4 = .ok (.iload_n 1, 1) := by decide +kernel
theorem d_X8_isSpent_5 : decode cX8_isSpent 5 = .ok (.bipush 10, 2) := by decide +kernel
theorem d_X8_isSpent_7 : decode cX8_isSpent 7 = .ok (.if_icmp .ge 17, 3) := by decide +kernel
theorem d_X8_isSpent_10 : decode cX8_isSpent 10 = .ok (.aload_n 0, 1) := by decide +kernel
theorem d_X8_isSpent_11 : decode cX8_isSpent 11 = .ok (.getfield 41, 3) := by decide +kernel
theorem d_X8_isSpent_14 : decode cX8_isSpent 14 = .ok (.iload_n 1, 1) := by decide +kernel
theorem d_X8_isSpent_15 : decode cX8_isSpent 15 = .ok (.iaload, 1) := by decide +kernel
theorem d_X8_isSpent_16 : decode cX8_isSpent 16 = .ok (.iconst (-1), 1) := by decide +kernel
theorem d_X8_isSpent_17 : decode cX8_isSpent 17 = .ok (.if_icmp .eq 7, 3) := by decide +kernel
theorem d_X8_isSpent_20 : decode cX8_isSpent 20 = .ok (.iconst 1, 1) := by decide +kernel
theorem d_X8_isSpent_21 : decode cX8_isSpent 21 = .ok (.goto 4, 3) := by decide +kernel
theorem d_X8_isSpent_24 : decode cX8_isSpent 24 = .ok (.iconst 0, 1) := by decide +kernel
theorem d_X8_isSpent_25 : decode cX8_isSpent 25 = .ok (.ireturn, 1) := by decide +kernel
set_option maxRecDepth 100000 in
theorem L_X8_isSpent {p : Program} {l : Launch} {e : Env} {s : State} {m : MethodId} {args : Array Value} {below : List Frame} {meth : Method} {c : Code} {D : va_G} {ca : Nat → ClassId} {ad sx sy : Nat → Nat} {A : Nat → Prop} {Q : QT} (C0 : CX p s m args meth c cX8_isSpent 2 yX8_isSpent.cls D ca ad A) (hE : EX sx sy A s s.heap) (hr : meth.sig.returnType = (some .boolean)) (hno : ∀ x ∈ c.exceptionTable.toList, False) : R_X8_isSpent (JW p l e { frames := 10, cells := 0, slots := 6 * 0, locals := 200 } s m args below meth c 2 D ca ad A (vx_MQ below (Qn D ca ad A Q) (Qx D ca ad A Q) args s 0 (6 * 0) A) gz gz true) Q := ⟨s_iln C0 (d_X8_isSpent_0) hgz (s_zlt C0 (d_X8_isSpent_1) (by decide) hgz hgz (fun _ _ _ h => h) (s_iln C0 (d_X8_isSpent_4) hgz (s_bi C0 (d_X8_isSpent_5) hgz (s_cge C0 (d_X8_isSpent_7) (by decide) hgz hgz (fun _ _ _ h => h) (s_aln C0 (d_X8_isSpent_10) hgz (s_gr C0 (j := 7) (c0 := 8) rfl gX8 (by decide) rfl rfl wg247 (d_X8_isSpent_11) hgz (s_iln C0 (d_X8_isSpent_14) hgz (s_ia C0 (d_X8_isSpent_15) hgz (s_ic C0 (d_X8_isSpent_16) hgz (s_ceq C0 (d_X8_isSpent_17) (by decide) hgz hgz (fun _ _ _ h => h) (s_ic C0 (d_X8_isSpent_20) hgz (s_goto C0 (tgt := 25) (d_X8_isSpent_21) (by decide) hgz (fun _ _ _ h => h)) (okn rfl))) (okn rfl))))))) (okn rfl) rfl))),
  s_ic C0 (d_X8_isSpent_24) hgz (fun _ _ _ h => h) (okn rfl),
  s_rz C0 hr (d_X8_isSpent_25) ⟨by decide, by decide⟩⟩
theorem c_X8_isSpent (l : Launch) : Ctr l yX8_isSpent cX8_isSpent 2 (some .boolean) 10 200 0 (fun sx => (nf G_X8_isSpent)) := ctr_of (by decide) gz gz ⟨rfl, rfl⟩ (fun p e s m args below meth c D ca ad sx sy A Q as M C0 hE hr hno hF => P_X8_isSpent (L_X8_isSpent C0 hE hr hno) hF)
theorem wg883 : Cond.code ⟨"WeighedHall$Sitting", "isSpent", "(I)Z"⟩ prog_10_method_12_code 2 (Option.some .boolean) ∈ GT := gt_mem 1003 (by decide +kernel) rfl
theorem wg880 : Cond.methodLink "WeighedHall$Sitting" 112 ⟨"WeighedHall$Sitting", "isSpent", "(I)Z"⟩ ∈ GT := gt_mem 1000 (by decide +kernel) rfl
theorem wg882 : Cond.instanceMethod ⟨"WeighedHall$Sitting", "isSpent", "(I)Z"⟩ ∈ GT := gt_mem 1002 (by decide +kernel) rfl
theorem ws46 : Cond.selects "WeighedHall$Sitting" ⟨"WeighedHall$Sitting", "isSpent", "(I)Z"⟩ ⟨"WeighedHall$Sitting", "isSpent", "(I)Z"⟩ ∈ GT := gt_mem 46 (by decide +kernel) rfl
theorem d_X8_homeOf_0 : decode cX8_homeOf 0 = .ok (.aload_n 0, 1) := by decide +kernel
theorem d_X8_homeOf_1 : decode cX8_homeOf 1 = .ok (.aload_n 0, 1) := by decide +kernel
theorem d_X8_homeOf_2 : decode cX8_homeOf 2 = .ok (.getfield 12, 3) := by decide +kernel
theorem d_X8_homeOf_5 : decode cX8_homeOf 5 = .ok (.getfield 58, 3) := by decide +kernel
theorem d_X8_homeOf_8 : decode cX8_homeOf 8 = .ok (.iload_n 1, 1) := by decide +kernel
theorem d_X8_homeOf_9 : decode cX8_homeOf 9 = .ok (.iaload, 1) := by decide +kernel
theorem d_X8_homeOf_10 : decode cX8_homeOf 10 = .ok (.invokevirtual 112, 3) := by decide +kernel
theorem d_X8_homeOf_13 : decode cX8_homeOf 13 = .ok (.ifCond .eq 7, 3) := by decide +kernel
theorem d_X8_homeOf_16 : decode cX8_homeOf 16 = .ok (.iconst (-1), 1) := by decide +kernel
theorem d_X8_homeOf_17 : decode cX8_homeOf 17 = .ok (.goto 12, 3) := by decide +kernel
theorem d_X8_homeOf_20 : decode cX8_homeOf 20 = .ok (.aload_n 0, 1) := by decide +kernel
theorem d_X8_homeOf_21 : decode cX8_homeOf 21 = .ok (.getfield 12, 3) := by decide +kernel
theorem d_X8_homeOf_24 : decode cX8_homeOf 24 = .ok (.getfield 58, 3) := by decide +kernel
theorem d_X8_homeOf_27 : decode cX8_homeOf 27 = .ok (.iload_n 1, 1) := by decide +kernel
theorem d_X8_homeOf_28 : decode cX8_homeOf 28 = .ok (.iaload, 1) := by decide +kernel
theorem d_X8_homeOf_29 : decode cX8_homeOf 29 = .ok (.ireturn, 1) := by decide +kernel
set_option maxRecDepth 100000 in
theorem L_X8_homeOf {p : Program} {l : Launch} {e : Env} {s : State} {m : MethodId} {args : Array Value} {below : List Frame} {meth : Method} {c : Code} {D : va_G} {ca : Nat → ClassId} {ad sx sy : Nat → Nat} {A : Nat → Prop} {Q : QT} (C0 : CX p s m args meth c cX8_homeOf 2 yX8_homeOf.cls D ca ad A) (hE : EX sx sy A s s.heap) (hr : meth.sig.returnType = (some .int)) (hno : ∀ x ∈ c.exceptionTable.toList, False) : R_X8_homeOf (JW p l e { frames := 11, cells := 0, slots := 6 * 0, locals := 221 } s m args below meth c 2 D ca ad A (vx_MQ below (Qn D ca ad A Q) (Qx D ca ad A Q) args s 0 (6 * 0) A) gz gz true) Q := ⟨s_aln C0 (d_X8_homeOf_0) hgz (s_aln C0 (d_X8_homeOf_1) hgz (s_gm C0 (j := 0) (c0 := 8) rfl gX8 (by decide) rfl rfl wg236 (d_X8_homeOf_2) hgz (s_grN C0 (j := 4) (c0 := 6) rfl gX6 (by decide) rfl rfl wn93 (d_X8_homeOf_5) hgz (s_iln C0 (d_X8_homeOf_8) hgz (s_ia C0 (d_X8_homeOf_9) hgz (s_callV C0 hE (c_X8_isSpent l) wg883 wg880 wg882 ws46 wg7 ⟨by decide, by decide⟩ (by decide +kernel) (c0 := 8) rfl ⟨by decide, by decide⟩ ⟨by decide, by decide⟩ (d_X8_homeOf_10) (fun x hx => (hno x hx).elim) ⟨by decide, by decide⟩ ⟨by decide, by decide⟩ (s_zeq C0 (d_X8_homeOf_13) (by decide) hgz hgz (fun _ _ _ h => h) (s_ic C0 (d_X8_homeOf_16) hgz (s_goto C0 (tgt := 29) (d_X8_homeOf_17) (by decide) hgz (fun _ _ _ h => h)) (okn rfl))))))))),
  s_aln C0 (d_X8_homeOf_20) hgz (s_gm C0 (j := 0) (c0 := 8) rfl gX8 (by decide) rfl rfl wg236 (d_X8_homeOf_21) hgz (s_grN C0 (j := 4) (c0 := 6) rfl gX6 (by decide) rfl rfl wn93 (d_X8_homeOf_24) hgz (s_iln C0 (d_X8_homeOf_27) hgz (s_ia C0 (d_X8_homeOf_28) hgz (fun _ _ _ h => h))))),
  s_ri C0 hr (d_X8_homeOf_29) ⟨by decide, by decide⟩⟩
theorem c_X8_homeOf (l : Launch) : Ctr l yX8_homeOf cX8_homeOf 2 (some .int) 11 221 0 (fun sx => (nf G_X8_homeOf)) := ctr_of (by decide) gz gz ⟨rfl, rfl⟩ (fun p e s m args below meth c D ca ad sx sy A Q as M C0 hE hr hno hF => P_X8_homeOf (L_X8_homeOf C0 hE hr hno) hF)
theorem d_X6_hasThing_0 : decode cX6_hasThing 0 = .ok (.iload_n 1, 1) := by decide +kernel
theorem d_X6_hasThing_1 : decode cX6_hasThing 1 = .ok (.ifCond .lt 15, 3) := by decide +kernel
theorem d_X6_hasThing_4 : decode cX6_hasThing 4 = .ok (.iload_n 1, 1) := by decide +kernel
theorem d_X6_hasThing_5 : decode cX6_hasThing 5 = .ok (.aload_n 0, 1) := by decide +kernel
theorem d_X6_hasThing_6 : decode cX6_hasThing 6 = .ok (.getfield 46, 3) := by decide +kernel
theorem d_X6_hasThing_9 : decode cX6_hasThing 9 = .ok (.if_icmp .ge 7, 3) := by decide +kernel
theorem d_X6_hasThing_12 : decode cX6_hasThing 12 = .ok (.iconst 1, 1) := by decide +kernel
theorem d_X6_hasThing_13 : decode cX6_hasThing 13 = .ok (.goto 4, 3) := by decide +kernel
theorem d_X6_hasThing_16 : decode cX6_hasThing 16 = .ok (.iconst 0, 1) := by decide +kernel
theorem d_X6_hasThing_17 : decode cX6_hasThing 17 = .ok (.ireturn, 1) := by decide +kernel
set_option maxRecDepth 100000 in
theorem L_X6_hasThing {p : Program} {l : Launch} {e : Env} {s : State} {m : MethodId} {args : Array Value} {below : List Frame} {meth : Method} {c : Code} {D : va_G} {ca : Nat → ClassId} {ad sx sy : Nat → Nat} {A : Nat → Prop} {Q : QT} (C0 : CX p s m args meth c cX6_hasThing 2 yX6_hasThing.cls D ca ad A) (hE : EX sx sy A s s.heap) (hr : meth.sig.returnType = (some .boolean)) (hno : ∀ x ∈ c.exceptionTable.toList, False) : R_X6_hasThing (JW p l e { frames := 10, cells := 0, slots := 6 * 0, locals := 200 } s m args below meth c 2 D ca ad A (vx_MQ below (Qn D ca ad A Q) (Qx D ca ad A Q) args s 0 (6 * 0) A) gz gz true) Q := ⟨s_iln C0 (d_X6_hasThing_0) hgz (s_zlt C0 (d_X6_hasThing_1) (by decide) hgz hgz (fun _ _ _ h => h) (s_iln C0 (d_X6_hasThing_4) hgz (s_aln C0 (d_X6_hasThing_5) hgz (s_gi C0 (j := 3) (c0 := 6) rfl gX6 (by decide) rfl (by decide) wg84 (d_X6_hasThing_6) hgz (s_cge C0 (d_X6_hasThing_9) (by decide) hgz hgz (fun _ _ _ h => h) (s_ic C0 (d_X6_hasThing_12) hgz (s_goto C0 (tgt := 17) (d_X6_hasThing_13) (by decide) hgz (fun _ _ _ h => h)) (okn rfl))))))),
  s_ic C0 (d_X6_hasThing_16) hgz (fun _ _ _ h => h) (okn rfl),
  s_rz C0 hr (d_X6_hasThing_17) ⟨by decide, by decide⟩⟩
theorem c_X6_hasThing (l : Launch) : Ctr l yX6_hasThing cX6_hasThing 2 (some .boolean) 10 200 0 (fun sx => (nf G_X6_hasThing)) := ctr_of (by decide) gz gz ⟨rfl, rfl⟩ (fun p e s m args below meth c D ca ad sx sy A Q as M C0 hE hr hno hF => P_X6_hasThing (L_X6_hasThing C0 hE hr hno) hF)
