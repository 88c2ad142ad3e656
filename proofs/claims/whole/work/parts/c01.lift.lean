theorem wg852 : Cond.code ⟨"WeighedHall$Sitting", "begin", "(LWeighedHall$Plan;LWeighedHall$Loans;I)V"⟩ prog_10_method_2_code 6 (Option.none : Option FieldType) ∈ GT := gt_mem 972 (by decide +kernel) rfl
theorem wn1048 : Cond.methodLinkNest "WeighedHall" 248 ⟨"WeighedHall$Sitting", "begin", "(LWeighedHall$Plan;LWeighedHall$Loans;I)V"⟩ "WeighedHall" ∈ NT := nt_mem 1048 (by decide +kernel) rfl
theorem wg851 : Cond.instanceMethod ⟨"WeighedHall$Sitting", "begin", "(LWeighedHall$Plan;LWeighedHall$Loans;I)V"⟩ ∈ GT := gt_mem 971 (by decide +kernel) rfl
theorem ws40 : Cond.selects "WeighedHall$Sitting" ⟨"WeighedHall$Sitting", "begin", "(LWeighedHall$Plan;LWeighedHall$Loans;I)V"⟩ ⟨"WeighedHall$Sitting", "begin", "(LWeighedHall$Plan;LWeighedHall$Loans;I)V"⟩ ∈ GT := gt_mem 40 (by decide +kernel) rfl
theorem wg396 : Cond.fieldLink "WeighedHall" 29 "WeighedHall" "loans" "LWeighedHall$Loans;" ∈ GT := gt_mem 516 (by decide +kernel) rfl
theorem wg394 : Cond.fieldLink "WeighedHall" 19 "WeighedHall" "plan" "LWeighedHall$Plan;" ∈ GT := gt_mem 514 (by decide +kernel) rfl
theorem wg403 : Cond.fieldLink "WeighedHall" 61 "WeighedHall" "pausing" "LWeighedHall$Sitting;" ∈ GT := gt_mem 523 (by decide +kernel) rfl
theorem wg871 : Cond.code ⟨"WeighedHall$Sitting", "goThrough", "(II)V"⟩ prog_10_method_4_code 3 (Option.none : Option FieldType) ∈ GT := gt_mem 991 (by decide +kernel) rfl
theorem wn1049 : Cond.methodLinkNest "WeighedHall" 252 ⟨"WeighedHall$Sitting", "goThrough", "(II)V"⟩ "WeighedHall" ∈ NT := nt_mem 1049 (by decide +kernel) rfl
theorem wg870 : Cond.instanceMethod ⟨"WeighedHall$Sitting", "goThrough", "(II)V"⟩ ∈ GT := gt_mem 990 (by decide +kernel) rfl
theorem ws43 : Cond.selects "WeighedHall$Sitting" ⟨"WeighedHall$Sitting", "goThrough", "(II)V"⟩ ⟨"WeighedHall$Sitting", "goThrough", "(II)V"⟩ ∈ GT := gt_mem 43 (by decide +kernel) rfl
theorem d_X10_pauseFrom_0 : decode cX10_pauseFrom 0 = .ok (.aload_n 0, 1) := by decide +kernel
theorem d_X10_pauseFrom_1 : decode cX10_pauseFrom 1 = .ok (.getfield 61, 3) := by decide +kernel
theorem d_X10_pauseFrom_4 : decode cX10_pauseFrom 4 = .ok (.aload_n 0, 1) := by decide +kernel
theorem d_X10_pauseFrom_5 : decode cX10_pauseFrom 5 = .ok (.getfield 19, 3) := by decide +kernel
theorem d_X10_pauseFrom_8 : decode cX10_pauseFrom 8 = .ok (.aload_n 0, 1) := by decide +kernel
theorem d_X10_pauseFrom_9 : decode cX10_pauseFrom 9 = .ok (.getfield 29, 3) := by decide +kernel
theorem d_X10_pauseFrom_12 : decode cX10_pauseFrom 12 = .ok (.iconst (-1), 1) := by decide +kernel
theorem d_X10_pauseFrom_13 : decode cX10_pauseFrom 13 = .ok (.invokevirtual 248, 3) := by decide +kernel
theorem d_X10_pauseFrom_16 : decode cX10_pauseFrom 16 = .ok (.iconst 0, 1) := by decide +kernel
theorem d_X10_pauseFrom_17 : decode cX10_pauseFrom 17 = .ok (.istore_n 2, 1) := by decide +kernel
theorem d_X10_pauseFrom_18 : decode cX10_pauseFrom 18 = .ok (.iload_n 2, 1) := by decide +kernel
theorem d_X10_pauseFrom_19 : decode cX10_pauseFrom 19 = .ok (.iload_n 1, 1) := by decide +kernel
theorem d_X10_pauseFrom_20 : decode cX10_pauseFrom 20 = .ok (.if_icmp .ge 18, 3) := by decide +kernel
theorem d_X10_pauseFrom_23 : decode cX10_pauseFrom 23 = .ok (.aload_n 0, 1) := by decide +kernel
theorem d_X10_pauseFrom_24 : decode cX10_pauseFrom 24 = .ok (.getfield 61, 3) := by decide +kernel
theorem d_X10_pauseFrom_27 : decode cX10_pauseFrom 27 = .ok (.iload_n 2, 1) := by decide +kernel
theorem d_X10_pauseFrom_28 : decode cX10_pauseFrom 28 = .ok (.iload_n 2, 1) := by decide +kernel
theorem d_X10_pauseFrom_29 : decode cX10_pauseFrom 29 = .ok (.invokevirtual 252, 3) := by decide +kernel
theorem d_X10_pauseFrom_32 : decode cX10_pauseFrom 32 = .ok (.iinc 2 1, 3) := by decide +kernel
theorem d_X10_pauseFrom_35 : decode cX10_pauseFrom 35 = .ok (.goto (-17), 3) := by decide +kernel
theorem d_X10_pauseFrom_38 : decode cX10_pauseFrom 38 = .ok (.return_, 1) := by decide +kernel
set_option maxRecDepth 100000 in
theorem L_X10_pauseFrom {p : Program} {l : Launch} {e : Env} {s : State} {m : MethodId} {args : Array Value} {below : List Frame} {meth : Method} {c : Code} {D : va_G} {ca : Nat → ClassId} {ad sx sy : Nat → Nat} {A : Nat → Prop} {Q : QT} (C0 : CX p s m args meth c cX10_pauseFrom 3 yX10_pauseFrom.cls D ca ad A) (hE : EX sx sy A s s.heap) (hr : meth.sig.returnType = none) (hno : ∀ x ∈ c.exceptionTable.toList, False) : R_X10_pauseFrom (JW p l e { frames := 14, cells := 0, slots := 6 * 0, locals := 293 } s m args below meth c 3 D ca ad A (vx_MQ below (Qn D ca ad A Q) (Qx D ca ad A Q) args s 0 (6 * 0) A) gz gz true) Q := ⟨s_aln C0 (d_X10_pauseFrom_0) hgz (s_gr C0 (j := 10) (c0 := 10) rfl gX10 (by decide) rfl rfl wg403 (d_X10_pauseFrom_1) hgz (s_aln C0 (d_X10_pauseFrom_4) hgz (s_gm C0 (j := 1) (c0 := 10) rfl gX10 (by decide) rfl rfl wg394 (d_X10_pauseFrom_5) hgz (s_aln C0 (d_X10_pauseFrom_8) hgz (s_gm C0 (j := 3) (c0 := 10) rfl gX10 (by decide) rfl rfl wg396 (d_X10_pauseFrom_9) hgz (s_ic C0 (d_X10_pauseFrom_12) hgz (s_callVN C0 hE (c_X8_begin l) wg852 wn1048 wg851 ws40 wg7 ⟨by decide, by decide⟩ (by decide +kernel) (c0 := 8) rfl ⟨by decide, by decide⟩ ⟨by decide, by decide⟩ (d_X10_pauseFrom_13) (fun x hx => (hno x hx).elim) ⟨by decide, by decide⟩ ⟨by decide, by decide⟩ (s_ic C0 (d_X10_pauseFrom_16) hgz (s_isn C0 (d_X10_pauseFrom_17) hgz (fun _ _ _ h => h)) (okn rfl))) (okn rfl))))))),
  s_iln C0 (d_X10_pauseFrom_18) hgz (s_iln C0 (d_X10_pauseFrom_19) hgz (s_cge C0 (d_X10_pauseFrom_20) (by decide) hgz hgz (fun _ _ _ h => h) (s_aln C0 (d_X10_pauseFrom_23) hgz (s_gr C0 (j := 10) (c0 := 10) rfl gX10 (by decide) rfl rfl wg403 (d_X10_pauseFrom_24) hgz (s_iln C0 (d_X10_pauseFrom_27) hgz (s_iln C0 (d_X10_pauseFrom_28) hgz (s_callVN C0 hE (c_X8_goThrough l) wg871 wn1049 wg870 ws43 wg7 ⟨by decide, by decide⟩ (by decide +kernel) (c0 := 8) rfl ⟨by decide, by decide⟩ ⟨by decide, by decide⟩ (d_X10_pauseFrom_29) (fun x hx => (hno x hx).elim) ⟨by decide, by decide⟩ ⟨by decide, by decide⟩ (s_inc C0 (d_X10_pauseFrom_32) hgz (s_goto C0 (tgt := 18) (d_X10_pauseFrom_35) (by decide) hgz (fun _ _ _ h => h)))))))))),
  s_rv C0 hr (d_X10_pauseFrom_38) ⟨by decide, by decide⟩⟩
theorem c_X10_pauseFrom (l : Launch) : Ctr l yX10_pauseFrom cX10_pauseFrom 3 none 14 293 0 (fun sx => (nf G_X10_pauseFrom)) := ctr_of (by decide) gz gz ⟨rfl, rfl⟩ (fun p e s m args below meth c D ca ad sx sy A Q as M C0 hE hr hno hF => P_X10_pauseFrom (L_X10_pauseFrom C0 hE hr hno) hF)
theorem wg344 : Cond.fieldLink "WeighedHall$Scales" 27 "WeighedHall$Scales" "all" "I" ∈ GT := gt_mem 464 (by decide +kernel) rfl
theorem d_X7_isMore_0 : decode cX7_isMore 0 = .ok (.iconst 2, 1) := by decide +kernel
theorem d_X7_isMore_1 : decode cX7_isMore 1 = .ok (.iload_n 1, 1) := by decide +kernel
theorem d_X7_isMore_2 : decode cX7_isMore 2 = .ok (.imul, 1) := by decide +kernel
theorem d_X7_isMore_3 : decode cX7_isMore 3 = .ok (.aload_n 0, 1) := by decide +kernel
theorem d_X7_isMore_4 : decode cX7_isMore 4 = .ok (.getfield 27, 3) := by decide +kernel
theorem d_X7_isMore_7 : decode cX7_isMore 7 = .ok (.if_icmp .le 7, 3) := by decide +kernel
theorem d_X7_isMore_10 : decode cX7_isMore 10 = .ok (.iconst 1, 1) := by decide +kernel
theorem d_X7_isMore_11 : decode cX7_isMore 11 = .ok (.goto 4, 3) := by decide +kernel
theorem d_X7_isMore_14 : decode cX7_isMore 14 = .ok (.iconst 0, 1) := by decide +kernel
theorem d_X7_isMore_15 : decode cX7_isMore 15 = .ok (.ireturn, 1) := by decide +kernel
set_option maxRecDepth 100000 in
theorem L_X7_isMore {p : Program} {l : Launch} {e : Env} {s : State} {m : MethodId} {args : Array Value} {below : List Frame} {meth : Method} {c : Code} {D : va_G} {ca : Nat → ClassId} {ad sx sy : Nat → Nat} {A : Nat → Prop} {Q : QT} (C0 : CX p s m args meth c cX7_isMore 2 yX7_isMore.cls D ca ad A) (hE : EX sx sy A s s.heap) (hr : meth.sig.returnType = (some .boolean)) (hno : ∀ x ∈ c.exceptionTable.toList, False) : R_X7_isMore (JW p l e { frames := 10, cells := 0, slots := 6 * 0, locals := 200 } s m args below meth c 2 D ca ad A (vx_MQ below (Qn D ca ad A Q) (Qx D ca ad A Q) args s 0 (6 * 0) A) gz gz true) Q := ⟨s_ic C0 (d_X7_isMore_0) hgz (s_iln C0 (d_X7_isMore_1) hgz (s_mul C0 (d_X7_isMore_2) hgz (s_aln C0 (d_X7_isMore_3) hgz (s_gi C0 (j := 0) (c0 := 7) rfl gX7 (by decide) rfl (by decide) wg344 (d_X7_isMore_4) hgz (s_cle C0 (d_X7_isMore_7) (by decide) hgz hgz (fun _ _ _ h => h) (s_ic C0 (d_X7_isMore_10) hgz (s_goto C0 (tgt := 15) (d_X7_isMore_11) (by decide) hgz (fun _ _ _ h => h)) (okn rfl))))))) (okn rfl),
  s_ic C0 (d_X7_isMore_14) hgz (fun _ _ _ h => h) (okn rfl),
  s_rz C0 hr (d_X7_isMore_15) ⟨by decide, by decide⟩⟩
theorem c_X7_isMore (l : Launch) : Ctr l yX7_isMore cX7_isMore 2 (some .boolean) 10 200 0 (fun sx => (nf G_X7_isMore)) := ctr_of (by decide) gz gz ⟨rfl, rfl⟩ (fun p e s m args below meth c D ca ad sx sy A Q as M C0 hE hr hno hF => P_X7_isMore (L_X7_isMore C0 hE hr hno) hF)
theorem wg345 : Cond.fieldLink "WeighedHall$Scales" 34 "WeighedHall$Scales" "persons" "I" ∈ GT := gt_mem 465 (by decide +kernel) rfl
theorem wg495 : Cond.code ⟨"WeighedHall$Scales", "isMore", "(I)Z"⟩ prog_9_method_5_code 2 (Option.some .boolean) ∈ GT := gt_mem 615 (by decide +kernel) rfl
theorem wg10 : Cond.initialized "WeighedHall$Scales" ∈ GT := gt_mem 130 (by decide +kernel) rfl
theorem wg492 : Cond.methodLink "WeighedHall$Scales" 46 ⟨"WeighedHall$Scales", "isMore", "(I)Z"⟩ ∈ GT := gt_mem 612 (by decide +kernel) rfl
theorem wg494 : Cond.instanceMethod ⟨"WeighedHall$Scales", "isMore", "(I)Z"⟩ ∈ GT := gt_mem 614 (by decide +kernel) rfl
theorem ws5 : Cond.selects "WeighedHall$Scales" ⟨"WeighedHall$Scales", "isMore", "(I)Z"⟩ ⟨"WeighedHall$Scales", "isMore", "(I)Z"⟩ ∈ GT := gt_mem 5 (by decide +kernel) rfl
theorem wg346 : Cond.fieldLink "WeighedHall$Scales" 9 "WeighedHall$Scales" "own" "[I" ∈ GT := gt_mem 466 (by decide +kernel) rfl
theorem wg347 : Cond.fieldLink "WeighedHall$Scales" 15 "WeighedHall$Scales" "sums" "[I" ∈ GT := gt_mem 467 (by decide +kernel) rfl
theorem wg491 : Cond.code ⟨"WeighedHall", "isIn", "(II)Z"⟩ prog_1_method_40_code 2 (Option.some .boolean) ∈ GT := gt_mem 611 (by decide +kernel) rfl
theorem wn489 : Cond.methodLinkNest "WeighedHall$Scales" 42 ⟨"WeighedHall", "isIn", "(II)Z"⟩ "WeighedHall" ∈ NT := nt_mem 489 (by decide +kernel) rfl
theorem wg490 : Cond.static ⟨"WeighedHall", "isIn", "(II)Z"⟩ ∈ GT := gt_mem 610 (by decide +kernel) rfl
theorem d_X7_swingsOf_0 : decode cX7_swingsOf 0 = .ok (.iload_n 1, 1) := by decide +kernel
theorem d_X7_swingsOf_1 : decode cX7_swingsOf 1 = .ok (.ifCond .lt 11, 3) := by decide +kernel
theorem d_X7_swingsOf_4 : decode cX7_swingsOf 4 = .ok (.iload_n 1, 1) := by decide +kernel
theorem d_X7_swingsOf_5 : decode cX7_swingsOf 5 = .ok (.aload_n 0, 1) := by decide +kernel
theorem d_X7_swingsOf_6 : decode cX7_swingsOf 6 = .ok (.getfield 34, 3) := by decide +kernel
theorem d_X7_swingsOf_9 : decode cX7_swingsOf 9 = .ok (.if_icmp .lt 5, 3) := by decide +kernel
theorem d_X7_swingsOf_12 : decode cX7_swingsOf 12 = .ok (.iconst 0, 1) := by decide +kernel
theorem d_X7_swingsOf_13 : decode cX7_swingsOf 13 = .ok (.ireturn, 1) := by decide +kernel
theorem d_X7_swingsOf_14 : decode cX7_swingsOf 14 = .ok (.iconst 0, 1) := by decide +kernel
theorem d_X7_swingsOf_15 : decode cX7_swingsOf 15 = .ok (.istore_n 2, 1) := by decide +kernel
theorem d_X7_swingsOf_16 : decode cX7_swingsOf 16 = .ok (.iconst 0, 1) := by decide +kernel
theorem d_X7_swingsOf_17 : decode cX7_swingsOf 17 = .ok (.istore_n 3, 1) := by decide +kernel
theorem d_X7_swingsOf_18 : decode cX7_swingsOf 18 = .ok (.iload_n 3, 1) := by decide +kernel
theorem d_X7_swingsOf_19 : decode cX7_swingsOf 19 = .ok (.iconst 1, 1) := by decide +kernel
theorem d_X7_swingsOf_20 : decode cX7_swingsOf 20 = .ok (.aload_n 0, 1) := by decide +kernel
theorem d_X7_swingsOf_21 : decode cX7_swingsOf 21 = .ok (.getfield 34, 3) := by decide +kernel
theorem d_X7_swingsOf_24 : decode cX7_swingsOf 24 = .ok (.ishl, 1) := by decide +kernel
theorem d_X7_swingsOf_25 : decode cX7_swingsOf 25 = .ok (.if_icmp .ge 53, 3) := by decide +kernel
theorem d_X7_swingsOf_28 : decode cX7_swingsOf 28 = .ok (.iload_n 1, 1) := by decide +kernel
theorem d_X7_swingsOf_29 : decode cX7_swingsOf 29 = .ok (.iload_n 3, 1) := by decide +kernel
theorem d_X7_swingsOf_30 : decode cX7_swingsOf 30 = .ok (.invokestatic 42, 3) := by decide +kernel
theorem d_X7_swingsOf_33 : decode cX7_swingsOf 33 = .ok (.ifCond .ne 39, 3) := by decide +kernel
theorem d_X7_swingsOf_36 : decode cX7_swingsOf 36 = .ok (.aload_n 0, 1) := by decide +kernel
theorem d_X7_swingsOf_37 : decode cX7_swingsOf 37 = .ok (.aload_n 0, 1) := by decide +kernel
theorem d_X7_swingsOf_38 : decode cX7_swingsOf 38 = .ok (.getfield 15, 3) := by decide +kernel
theorem d_X7_swingsOf_41 : decode cX7_swingsOf 41 = .ok (.iload_n 3, 1) := by decide +kernel
theorem d_X7_swingsOf_42 : decode cX7_swingsOf 42 = .ok (.iaload, 1) := by decide +kernel
theorem d_X7_swingsOf_43 : decode cX7_swingsOf 43 = .ok (.invokevirtual 46, 3) := by decide +kernel
theorem d_X7_swingsOf_46 : decode cX7_swingsOf 46 = .ok (.ifCond .ne 26, 3) := by decide +kernel
theorem d_X7_swingsOf_49 : decode cX7_swingsOf 49 = .ok (.aload_n 0, 1) := by decide +kernel
theorem d_X7_swingsOf_50 : decode cX7_swingsOf 50 = .ok (.aload_n 0, 1) := by decide +kernel
theorem d_X7_swingsOf_51 : decode cX7_swingsOf 51 = .ok (.getfield 15, 3) := by decide +kernel
theorem d_X7_swingsOf_54 : decode cX7_swingsOf 54 = .ok (.iload_n 3, 1) := by decide +kernel
theorem d_X7_swingsOf_55 : decode cX7_swingsOf 55 = .ok (.iaload, 1) := by decide +kernel
theorem d_X7_swingsOf_56 : decode cX7_swingsOf 56 = .ok (.aload_n 0, 1) := by decide +kernel
theorem d_X7_swingsOf_57 : decode cX7_swingsOf 57 = .ok (.getfield 9, 3) := by decide +kernel
theorem d_X7_swingsOf_60 : decode cX7_swingsOf 60 = .ok (.iload_n 1, 1) := by decide +kernel
theorem d_X7_swingsOf_61 : decode cX7_swingsOf 61 = .ok (.iaload, 1) := by decide +kernel
theorem d_X7_swingsOf_62 : decode cX7_swingsOf 62 = .ok (.iadd, 1) := by decide +kernel
theorem d_X7_swingsOf_63 : decode cX7_swingsOf 63 = .ok (.invokevirtual 46, 3) := by decide +kernel
theorem d_X7_swingsOf_66 : decode cX7_swingsOf 66 = .ok (.ifCond .eq 6, 3) := by decide +kernel
theorem d_X7_swingsOf_69 : decode cX7_swingsOf 69 = .ok (.iinc 2 1, 3) := by decide +kernel
theorem d_X7_swingsOf_72 : decode cX7_swingsOf 72 = .ok (.iinc 3 1, 3) := by decide +kernel
theorem d_X7_swingsOf_75 : decode cX7_swingsOf 75 = .ok (.goto (-57), 3) := by decide +kernel
theorem d_X7_swingsOf_78 : decode cX7_swingsOf 78 = .ok (.iload_n 2, 1) := by decide +kernel
theorem d_X7_swingsOf_79 : decode cX7_swingsOf 79 = .ok (.ireturn, 1) := by decide +kernel
set_option maxRecDepth 100000 in
theorem L_X7_swingsOf {p : Program} {l : Launch} {e : Env} {s : State} {m : MethodId} {args : Array Value} {below : List Frame} {meth : Method} {c : Code} {D : va_G} {ca : Nat → ClassId} {ad sx sy : Nat → Nat} {A : Nat → Prop} {Q : QT} (C0 : CX p s m args meth c cX7_swingsOf 4 yX7_swingsOf.cls D ca ad A) (hE : EX sx sy A s s.heap) (hr : meth.sig.returnType = (some .int)) (hno : ∀ x ∈ c.exceptionTable.toList, False) : R_X7_swingsOf (JW p l e { frames := 11, cells := 0, slots := 6 * 0, locals := 221 } s m args below meth c 4 D ca ad A (vx_MQ below (Qn D ca ad A Q) (Qx D ca ad A Q) args s 0 (6 * 0) A) gz gz true) Q := ⟨s_iln C0 (d_X7_swingsOf_0) hgz (s_zlt C0 (d_X7_swingsOf_1) (by decide) hgz hgz (fun _ _ _ h => h) (s_iln C0 (d_X7_swingsOf_4) hgz (s_aln C0 (d_X7_swingsOf_5) hgz (s_gi C0 (j := 1) (c0 := 7) rfl gX7 (by decide) rfl (by decide) wg345 (d_X7_swingsOf_6) hgz (s_clt C0 (d_X7_swingsOf_9) (by decide) hgz hgz (fun _ _ _ h => h) (fun _ _ _ h => h)))))),
  s_ic C0 (d_X7_swingsOf_12) hgz (s_ri C0 hr (d_X7_swingsOf_13) ⟨by decide, by decide⟩) (okn rfl),
  s_ic C0 (d_X7_swingsOf_14) hgz (s_isn C0 (d_X7_swingsOf_15) hgz (s_ic C0 (d_X7_swingsOf_16) hgz (s_isn C0 (d_X7_swingsOf_17) hgz (fun _ _ _ h => h)) (okn rfl))) (okn rfl),
  s_iln C0 (d_X7_swingsOf_18) hgz (s_ic C0 (d_X7_swingsOf_19) hgz (s_aln C0 (d_X7_swingsOf_20) hgz (s_gi C0 (j := 1) (c0 := 7) rfl gX7 (by decide) rfl (by decide) wg345 (d_X7_swingsOf_21) hgz (s_shl C0 (d_X7_swingsOf_24) hgz (s_cge C0 (d_X7_swingsOf_25) (by decide) hgz hgz (fun _ _ _ h => h) (s_iln C0 (d_X7_swingsOf_28) hgz (s_iln C0 (d_X7_swingsOf_29) hgz (s_callSN C0 hE (c_X10_isIn l) wg491 wn489 wg490 wg1 ⟨by decide, by decide⟩ (by decide +kernel) ⟨by decide, by decide⟩ ⟨by decide, by decide⟩ (d_X7_swingsOf_30) (fun x hx => (hno x hx).elim) ⟨by decide, by decide⟩ ⟨by decide, by decide⟩ (s_zne C0 (d_X7_swingsOf_33) (by decide) hgz hgz (fun _ _ _ h => h) (s_aln C0 (d_X7_swingsOf_36) hgz (s_aln C0 (d_X7_swingsOf_37) hgz (s_gr C0 (j := 3) (c0 := 7) rfl gX7 (by decide) rfl rfl wg347 (d_X7_swingsOf_38) hgz (s_iln C0 (d_X7_swingsOf_41) hgz (s_ia C0 (d_X7_swingsOf_42) hgz (s_callV C0 hE (c_X7_isMore l) wg495 wg492 wg494 ws5 wg10 ⟨by decide, by decide⟩ (by decide +kernel) (c0 := 7) rfl ⟨by decide, by decide⟩ ⟨by decide, by decide⟩ (d_X7_swingsOf_43) (fun x hx => (hno x hx).elim) ⟨by decide, by decide⟩ ⟨by decide, by decide⟩ (s_zne C0 (d_X7_swingsOf_46) (by decide) hgz hgz (fun _ _ _ h => h) (s_aln C0 (d_X7_swingsOf_49) hgz (s_aln C0 (d_X7_swingsOf_50) hgz (s_gr C0 (j := 3) (c0 := 7) rfl gX7 (by decide) rfl rfl wg347 (d_X7_swingsOf_51) hgz (s_iln C0 (d_X7_swingsOf_54) hgz (s_ia C0 (d_X7_swingsOf_55) hgz (s_aln C0 (d_X7_swingsOf_56) hgz (s_gr C0 (j := 2) (c0 := 7) rfl gX7 (by decide) rfl rfl wg346 (d_X7_swingsOf_57) hgz (s_iln C0 (d_X7_swingsOf_60) hgz (s_ia C0 (d_X7_swingsOf_61) hgz (s_add C0 (d_X7_swingsOf_62) hgz (s_callV C0 hE (c_X7_isMore l) wg495 wg492 wg494 ws5 wg10 ⟨by decide, by decide⟩ (by decide +kernel) (c0 := 7) rfl ⟨by decide, by decide⟩ ⟨by decide, by decide⟩ (d_X7_swingsOf_63) (fun x hx => (hno x hx).elim) ⟨by decide, by decide⟩ ⟨by decide, by decide⟩ (s_zeq C0 (d_X7_swingsOf_66) (by decide) hgz hgz (fun _ _ _ h => h) (s_inc C0 (d_X7_swingsOf_69) hgz (fun _ _ _ h => h))))))))))))))))))))))))))))) (okn rfl)),
  s_inc C0 (d_X7_swingsOf_72) hgz (s_goto C0 (tgt := 18) (d_X7_swingsOf_75) (by decide) hgz (fun _ _ _ h => h)),
  s_iln C0 (d_X7_swingsOf_78) hgz (s_ri C0 hr (d_X7_swingsOf_79) ⟨by decide, by decide⟩)⟩
theorem c_X7_swingsOf (l : Launch) : Ctr l yX7_swingsOf cX7_swingsOf 4 (some .int) 11 221 0 (fun sx => (nf G_X7_swingsOf)) := ctr_of (by decide) gz gz ⟨rfl, rfl⟩ (fun p e s m args below meth c D ca ad sx sy A Q as M C0 hE hr hno hF => P_X7_swingsOf (L_X7_swingsOf C0 hE hr hno) hF)
theorem wg92 : Cond.fieldLink "WeighedHall$Plan" 18 "WeighedHall$Plan" "owner" "[I" ∈ GT := gt_mem 212 (by decide +kernel) rfl
theorem d_X6_ownPounds_0 : decode cX6_ownPounds 0 = .ok (.iconst 0, 1) := by decide +kernel
theorem d_X6_ownPounds_1 : decode cX6_ownPounds 1 = .ok (.istore_n 2, 1) := by decide +kernel
theorem d_X6_ownPounds_2 : decode cX6_ownPounds 2 = .ok (.iconst 0, 1) := by decide +kernel
theorem d_X6_ownPounds_3 : decode cX6_ownPounds 3 = .ok (.istore_n 3, 1) := by decide +kernel
theorem d_X6_ownPounds_4 : decode cX6_ownPounds 4 = .ok (.iload_n 3, 1) := by decide +kernel
theorem d_X6_ownPounds_5 : decode cX6_ownPounds 5 = .ok (.aload_n 0, 1) := by decide +kernel
theorem d_X6_ownPounds_6 : decode cX6_ownPounds 6 = .ok (.getfield 46, 3) := by decide +kernel
theorem d_X6_ownPounds_9 : decode cX6_ownPounds 9 = .ok (.if_icmp .ge 28, 3) := by decide +kernel
theorem d_X6_ownPounds_12 : decode cX6_ownPounds 12 = .ok (.aload_n 0, 1) := by decide +kernel
theorem d_X6_ownPounds_13 : decode cX6_ownPounds 13 = .ok (.getfield 18, 3) := by decide +kernel
theorem d_X6_ownPounds_16 : decode cX6_ownPounds 16 = .ok (.iload_n 3, 1) := by decide +kernel
theorem d_X6_ownPounds_17 : decode cX6_ownPounds 17 = .ok (.iaload, 1) := by decide +kernel
theorem d_X6_ownPounds_18 : decode cX6_ownPounds 18 = .ok (.iload_n 1, 1) := by decide +kernel
theorem d_X6_ownPounds_19 : decode cX6_ownPounds 19 = .ok (.if_icmp .ne 12, 3) := by decide +kernel
theorem d_X6_ownPounds_22 : decode cX6_ownPounds 22 = .ok (.iload_n 2, 1) := by decide +kernel
theorem d_X6_ownPounds_23 : decode cX6_ownPounds 23 = .ok (.aload_n 0, 1) := by decide +kernel
theorem d_X6_ownPounds_24 : decode cX6_ownPounds 24 = .ok (.getfield 21, 3) := by decide +kernel
theorem d_X6_ownPounds_27 : decode cX6_ownPounds 27 = .ok (.iload_n 3, 1) := by decide +kernel
theorem d_X6_ownPounds_28 : decode cX6_ownPounds 28 = .ok (.iaload, 1) := by decide +kernel
theorem d_X6_ownPounds_29 : decode cX6_ownPounds 29 = .ok (.iadd, 1) := by decide +kernel
theorem d_X6_ownPounds_30 : decode cX6_ownPounds 30 = .ok (.istore_n 2, 1) := by decide +kernel
theorem d_X6_ownPounds_31 : decode cX6_ownPounds 31 = .ok (.iinc 3 1, 3) := by decide +kernel
theorem d_X6_ownPounds_34 : decode cX6_ownPounds 34 = .ok (.goto (-30), 3) := by decide +kernel
theorem d_X6_ownPounds_37 : decode cX6_ownPounds 37 = .ok (.iload_n 2, 1) := by decide +kernel
theorem d_X6_ownPounds_38 : decode cX6_ownPounds 38 = .ok (.ireturn, 1) := by decide +kernel
set_option maxRecDepth 100000 in
theorem L_X6_ownPounds {p : Program} {l : Launch} {e : Env} {s : State} {m : MethodId} {args : Array Value} {below : List Frame} {meth : Method} {c : Code} {D : va_G} {ca : Nat → ClassId} {ad sx sy : Nat → Nat} {A : Nat → Prop} {Q : QT} (C0 : CX p s m args meth c cX6_ownPounds 4 yX6_ownPounds.cls D ca ad A) (hE : EX sx sy A s s.heap) (hr : meth.sig.returnType = (some .int)) (hno : ∀ x ∈ c.exceptionTable.toList, False) : R_X6_ownPounds (JW p l e { frames := 10, cells := 0, slots := 6 * 0, locals := 200 } s m args below meth c 4 D ca ad A (vx_MQ below (Qn D ca ad A Q) (Qx D ca ad A Q) args s 0 (6 * 0) A) gz gz true) Q := ⟨s_ic C0 (d_X6_ownPounds_0) hgz (s_isn C0 (d_X6_ownPounds_1) hgz (s_ic C0 (d_X6_ownPounds_2) hgz (s_isn C0 (d_X6_ownPounds_3) hgz (fun _ _ _ h => h)) (okn rfl))) (okn rfl),
  s_iln C0 (d_X6_ownPounds_4) hgz (s_aln C0 (d_X6_ownPounds_5) hgz (s_gi C0 (j := 3) (c0 := 6) rfl gX6 (by decide) rfl (by decide) wg84 (d_X6_ownPounds_6) hgz (s_cge C0 (d_X6_ownPounds_9) (by decide) hgz hgz (fun _ _ _ h => h) (s_aln C0 (d_X6_ownPounds_12) hgz (s_gr C0 (j := 4) (c0 := 6) rfl gX6 (by decide) rfl rfl wg92 (d_X6_ownPounds_13) hgz (s_iln C0 (d_X6_ownPounds_16) hgz (s_ia C0 (d_X6_ownPounds_17) hgz (s_iln C0 (d_X6_ownPounds_18) hgz (s_cne C0 (d_X6_ownPounds_19) (by decide) hgz hgz (fun _ _ _ h => h) (s_iln C0 (d_X6_ownPounds_22) hgz (s_aln C0 (d_X6_ownPounds_23) hgz (s_gr C0 (j := 5) (c0 := 6) rfl gX6 (by decide) rfl rfl wg98 (d_X6_ownPounds_24) hgz (s_iln C0 (d_X6_ownPounds_27) hgz (s_ia C0 (d_X6_ownPounds_28) hgz (s_add C0 (d_X6_ownPounds_29) hgz (s_isn C0 (d_X6_ownPounds_30) hgz (fun _ _ _ h => h))))))))))))))))),
  s_inc C0 (d_X6_ownPounds_31) hgz (s_goto C0 (tgt := 4) (d_X6_ownPounds_34) (by decide) hgz (fun _ _ _ h => h)),
  s_iln C0 (d_X6_ownPounds_37) hgz (s_ri C0 hr (d_X6_ownPounds_38) ⟨by decide, by decide⟩)⟩
theorem c_X6_ownPounds (l : Launch) : Ctr l yX6_ownPounds cX6_ownPounds 4 (some .int) 10 200 0 (fun sx => (nf G_X6_ownPounds)) := ctr_of (by decide) gz gz ⟨rfl, rfl⟩ (fun p e s m args below meth c D ca ad sx sy A Q as M C0 hE hr hno hF => P_X6_ownPounds (L_X6_ownPounds C0 hE hr hno) hF)
theorem d_X6_allPounds_0 : decode cX6_allPounds 0 = .ok (.iconst 0, 1) := by decide +kernel
theorem d_X6_allPounds_1 : decode cX6_allPounds 1 = .ok (.istore_n 1, 1) := by decide +kernel
theorem d_X6_allPounds_2 : decode cX6_allPounds 2 = .ok (.iconst 0, 1) := by decide +kernel
theorem d_X6_allPounds_3 : decode cX6_allPounds 3 = .ok (.istore_n 2, 1) := by decide +kernel
theorem d_X6_allPounds_4 : decode cX6_allPounds 4 = .ok (.iload_n 2, 1) := by decide +kernel
theorem d_X6_allPounds_5 : decode cX6_allPounds 5 = .ok (.aload_n 0, 1) := by decide +kernel
theorem d_X6_allPounds_6 : decode cX6_allPounds 6 = .ok (.getfield 46, 3) := by decide +kernel
theorem d_X6_allPounds_9 : decode cX6_allPounds 9 = .ok (.if_icmp .ge 18, 3) := by decide +kernel
theorem d_X6_allPounds_12 : decode cX6_allPounds 12 = .ok (.iload_n 1, 1) := by decide +kernel
theorem d_X6_allPounds_13 : decode cX6_allPounds 13 = .ok (.aload_n 0, 1) := by decide +kernel
theorem d_X6_allPounds_14 : decode cX6_allPounds 14 = .ok (.getfield 21, 3) := by decide +kernel
theorem d_X6_allPounds_17 : decode cX6_allPounds 17 = .ok (.iload_n 2, 1) := by decide +kernel
theorem d_X6_allPounds_18 : decode cX6_allPounds 18 = .ok (.iaload, 1) := by decide +kernel
theorem d_X6_allPounds_19 : decode cX6_allPounds 19 = .ok (.iadd, 1) := by decide +kernel
theorem d_X6_allPounds_20 : decode cX6_allPounds 20 = .ok (.istore_n 1, 1) := by decide +kernel
theorem d_X6_allPounds_21 : decode cX6_allPounds 21 = .ok (.iinc 2 1, 3) := by decide +kernel
theorem d_X6_allPounds_24 : decode cX6_allPounds 24 = .ok (.goto (-20), 3) := by decide +kernel
theorem d_X6_allPounds_27 : decode cX6_allPounds 27 = .ok (.iload_n 1, 1) := by decide +kernel
theorem d_X6_allPounds_28 : decode cX6_allPounds 28 = .ok (.ireturn, 1) := by decide +kernel
set_option maxRecDepth 100000 in
theorem L_X6_allPounds {p : Program} {l : Launch} {e : Env} {s : State} {m : MethodId} {args : Array Value} {below : List Frame} {meth : Method} {c : Code} {D : va_G} {ca : Nat → ClassId} {ad sx sy : Nat → Nat} {A : Nat → Prop} {Q : QT} (C0 : CX p s m args meth c cX6_allPounds 3 yX6_allPounds.cls D ca ad A) (hE : EX sx sy A s s.heap) (hr : meth.sig.returnType = (some .int)) (hno : ∀ x ∈ c.exceptionTable.toList, False) : R_X6_allPounds (JW p l e { frames := 10, cells := 0, slots := 6 * 0, locals := 200 } s m args below meth c 3 D ca ad A (vx_MQ below (Qn D ca ad A Q) (Qx D ca ad A Q) args s 0 (6 * 0) A) gz gz true) Q := ⟨s_ic C0 (d_X6_allPounds_0) hgz (s_isn C0 (d_X6_allPounds_1) hgz (s_ic C0 (d_X6_allPounds_2) hgz (s_isn C0 (d_X6_allPounds_3) hgz (fun _ _ _ h => h)) (okn rfl))) (okn rfl),
  s_iln C0 (d_X6_allPounds_4) hgz (s_aln C0 (d_X6_allPounds_5) hgz (s_gi C0 (j := 3) (c0 := 6) rfl gX6 (by decide) rfl (by decide) wg84 (d_X6_allPounds_6) hgz (s_cge C0 (d_X6_allPounds_9) (by decide) hgz hgz (fun _ _ _ h => h) (s_iln C0 (d_X6_allPounds_12) hgz (s_aln C0 (d_X6_allPounds_13) hgz (s_gr C0 (j := 5) (c0 := 6) rfl gX6 (by decide) rfl rfl wg98 (d_X6_allPounds_14) hgz (s_iln C0 (d_X6_allPounds_17) hgz (s_ia C0 (d_X6_allPounds_18) hgz (s_add C0 (d_X6_allPounds_19) hgz (s_isn C0 (d_X6_allPounds_20) hgz (s_inc C0 (d_X6_allPounds_21) hgz (s_goto C0 (tgt := 4) (d_X6_allPounds_24) (by decide) hgz (fun _ _ _ h => h))))))))))))),
  s_iln C0 (d_X6_allPounds_27) hgz (s_ri C0 hr (d_X6_allPounds_28) ⟨by decide, by decide⟩)⟩
theorem c_X6_allPounds (l : Launch) : Ctr l yX6_allPounds cX6_allPounds 3 (some .int) 10 200 0 (fun sx => (nf G_X6_allPounds)) := ctr_of (by decide) gz gz ⟨rfl, rfl⟩ (fun p e s m args below meth c D ca ad sx sy A Q as M C0 hE hr hno hF => P_X6_allPounds (L_X6_allPounds C0 hE hr hno) hF)
theorem wn72 : Cond.fieldLinkNest "WeighedHall$Scales" 31 "WeighedHall$Plan" "persons" "I" "WeighedHall" ∈ NT := nt_mem 72 (by decide +kernel) rfl
theorem wg471 : Cond.code ⟨"WeighedHall$Plan", "allPounds", "()I"⟩ prog_8_method_17_code 3 (Option.some .int) ∈ GT := gt_mem 591 (by decide +kernel) rfl
theorem wn468 : Cond.methodLinkNest "WeighedHall$Scales" 21 ⟨"WeighedHall$Plan", "allPounds", "()I"⟩ "WeighedHall" ∈ NT := nt_mem 468 (by decide +kernel) rfl
theorem wg470 : Cond.instanceMethod ⟨"WeighedHall$Plan", "allPounds", "()I"⟩ ∈ GT := gt_mem 590 (by decide +kernel) rfl
theorem ws2 : Cond.selects "WeighedHall$Plan" ⟨"WeighedHall$Plan", "allPounds", "()I"⟩ ⟨"WeighedHall$Plan", "allPounds", "()I"⟩ ∈ GT := gt_mem 2 (by decide +kernel) rfl
theorem wg475 : Cond.code ⟨"WeighedHall$Plan", "ownPounds", "(I)I"⟩ prog_8_method_16_code 4 (Option.some .int) ∈ GT := gt_mem 595 (by decide +kernel) rfl
theorem wn472 : Cond.methodLinkNest "WeighedHall$Scales" 35 ⟨"WeighedHall$Plan", "ownPounds", "(I)I"⟩ "WeighedHall" ∈ NT := nt_mem 472 (by decide +kernel) rfl
theorem wg474 : Cond.instanceMethod ⟨"WeighedHall$Plan", "ownPounds", "(I)I"⟩ ∈ GT := gt_mem 594 (by decide +kernel) rfl
theorem ws3 : Cond.selects "WeighedHall$Plan" ⟨"WeighedHall$Plan", "ownPounds", "(I)I"⟩ ⟨"WeighedHall$Plan", "ownPounds", "(I)I"⟩ ∈ GT := gt_mem 3 (by decide +kernel) rfl
theorem wg478 : Cond.code ⟨"WeighedHall", "lowestOf", "(I)I"⟩ prog_1_method_41_code 1 (Option.some .int) ∈ GT := gt_mem 598 (by decide +kernel) rfl
theorem wn476 : Cond.methodLinkNest "WeighedHall$Scales" 39 ⟨"WeighedHall", "lowestOf", "(I)I"⟩ "WeighedHall" ∈ NT := nt_mem 476 (by decide +kernel) rfl
theorem wg477 : Cond.static ⟨"WeighedHall", "lowestOf", "(I)I"⟩ ∈ GT := gt_mem 597 (by decide +kernel) rfl
theorem d_X7_weighPersons_0 : decode cX7_weighPersons 0 = .ok (.aload_n 0, 1) := by decide +kernel
theorem d_X7_weighPersons_1 : decode cX7_weighPersons 1 = .ok (.aload_n 1, 1) := by decide +kernel
theorem d_X7_weighPersons_2 : decode cX7_weighPersons 2 = .ok (.invokevirtual 21, 3) := by decide +kernel
theorem d_X7_weighPersons_5 : decode cX7_weighPersons 5 = .ok (.putfield 27, 3) := by decide +kernel
theorem d_X7_weighPersons_8 : decode cX7_weighPersons 8 = .ok (.aload_n 0, 1) := by decide +kernel
theorem d_X7_weighPersons_9 : decode cX7_weighPersons 9 = .ok (.aload_n 1, 1) := by decide +kernel
theorem d_X7_weighPersons_10 : decode cX7_weighPersons 10 = .ok (.getfield 31, 3) := by decide +kernel
theorem d_X7_weighPersons_13 : decode cX7_weighPersons 13 = .ok (.putfield 34, 3) := by decide +kernel
theorem d_X7_weighPersons_16 : decode cX7_weighPersons 16 = .ok (.iconst 0, 1) := by decide +kernel
theorem d_X7_weighPersons_17 : decode cX7_weighPersons 17 = .ok (.istore_n 2, 1) := by decide +kernel
theorem d_X7_weighPersons_18 : decode cX7_weighPersons 18 = .ok (.iload_n 2, 1) := by decide +kernel
theorem d_X7_weighPersons_19 : decode cX7_weighPersons 19 = .ok (.aload_n 0, 1) := by decide +kernel
theorem d_X7_weighPersons_20 : decode cX7_weighPersons 20 = .ok (.getfield 34, 3) := by decide +kernel
theorem d_X7_weighPersons_23 : decode cX7_weighPersons 23 = .ok (.if_icmp .ge 20, 3) := by decide +kernel
theorem d_X7_weighPersons_26 : decode cX7_weighPersons 26 = .ok (.aload_n 0, 1) := by decide +kernel
theorem d_X7_weighPersons_27 : decode cX7_weighPersons 27 = .ok (.getfield 9, 3) := by decide +kernel
theorem d_X7_weighPersons_30 : decode cX7_weighPersons 30 = .ok (.iload_n 2, 1) := by decide +kernel
theorem d_X7_weighPersons_31 : decode cX7_weighPersons 31 = .ok (.aload_n 1, 1) := by decide +kernel
theorem d_X7_weighPersons_32 : decode cX7_weighPersons 32 = .ok (.iload_n 2, 1) := by decide +kernel
theorem d_X7_weighPersons_33 : decode cX7_weighPersons 33 = .ok (.invokevirtual 35, 3) := by decide +kernel
theorem d_X7_weighPersons_36 : decode cX7_weighPersons 36 = .ok (.iastore, 1) := by decide +kernel
theorem d_X7_weighPersons_37 : decode cX7_weighPersons 37 = .ok (.iinc 2 1, 3) := by decide +kernel
theorem d_X7_weighPersons_40 : decode cX7_weighPersons 40 = .ok (.goto (-22), 3) := by decide +kernel
theorem d_X7_weighPersons_43 : decode cX7_weighPersons 43 = .ok (.aload_n 0, 1) := by decide +kernel
theorem d_X7_weighPersons_44 : decode cX7_weighPersons 44 = .ok (.getfield 15, 3) := by decide +kernel
theorem d_X7_weighPersons_47 : decode cX7_weighPersons 47 = .ok (.iconst 0, 1) := by decide +kernel
theorem d_X7_weighPersons_48 : decode cX7_weighPersons 48 = .ok (.iconst 0, 1) := by decide +kernel
theorem d_X7_weighPersons_49 : decode cX7_weighPersons 49 = .ok (.iastore, 1) := by decide +kernel
theorem d_X7_weighPersons_50 : decode cX7_weighPersons 50 = .ok (.iconst 1, 1) := by decide +kernel
theorem d_X7_weighPersons_51 : decode cX7_weighPersons 51 = .ok (.istore_n 2, 1) := by decide +kernel
theorem d_X7_weighPersons_52 : decode cX7_weighPersons 52 = .ok (.iload_n 2, 1) := by decide +kernel
theorem d_X7_weighPersons_53 : decode cX7_weighPersons 53 = .ok (.iconst 1, 1) := by decide +kernel
theorem d_X7_weighPersons_54 : decode cX7_weighPersons 54 = .ok (.aload_n 0, 1) := by decide +kernel
theorem d_X7_weighPersons_55 : decode cX7_weighPersons 55 = .ok (.getfield 34, 3) := by decide +kernel
theorem d_X7_weighPersons_58 : decode cX7_weighPersons 58 = .ok (.ishl, 1) := by decide +kernel
theorem d_X7_weighPersons_59 : decode cX7_weighPersons 59 = .ok (.if_icmp .ge 35, 3) := by decide +kernel
theorem d_X7_weighPersons_62 : decode cX7_weighPersons 62 = .ok (.aload_n 0, 1) := by decide +kernel
theorem d_X7_weighPersons_63 : decode cX7_weighPersons 63 = .ok (.getfield 15, 3) := by decide +kernel
theorem d_X7_weighPersons_66 : decode cX7_weighPersons 66 = .ok (.iload_n 2, 1) := by decide +kernel
theorem d_X7_weighPersons_67 : decode cX7_weighPersons 67 = .ok (.aload_n 0, 1) := by decide +kernel
theorem d_X7_weighPersons_68 : decode cX7_weighPersons 68 = .ok (.getfield 15, 3) := by decide +kernel
theorem d_X7_weighPersons_71 : decode cX7_weighPersons 71 = .ok (.iload_n 2, 1) := by decide +kernel
theorem d_X7_weighPersons_72 : decode cX7_weighPersons 72 = .ok (.iload_n 2, 1) := by decide +kernel
theorem d_X7_weighPersons_73 : decode cX7_weighPersons 73 = .ok (.iconst 1, 1) := by decide +kernel
theorem d_X7_weighPersons_74 : decode cX7_weighPersons 74 = .ok (.isub, 1) := by decide +kernel
theorem d_X7_weighPersons_75 : decode cX7_weighPersons 75 = .ok (.iand, 1) := by decide +kernel
theorem d_X7_weighPersons_76 : decode cX7_weighPersons 76 = .ok (.iaload, 1) := by decide +kernel
theorem d_X7_weighPersons_77 : decode cX7_weighPersons 77 = .ok (.aload_n 0, 1) := by decide +kernel
theorem d_X7_weighPersons_78 : decode cX7_weighPersons 78 = .ok (.getfield 9, 3) := by decide +kernel
theorem d_X7_weighPersons_81 : decode cX7_weighPersons 81 = .ok (.iload_n 2, 1) := by decide +kernel
theorem d_X7_weighPersons_82 : decode cX7_weighPersons 82 = .ok (.invokestatic 39, 3) := by decide +kernel
theorem d_X7_weighPersons_85 : decode cX7_weighPersons 85 = .ok (.iaload, 1) := by decide +kernel
theorem d_X7_weighPersons_86 : decode cX7_weighPersons 86 = .ok (.iadd, 1) := by decide +kernel
theorem d_X7_weighPersons_87 : decode cX7_weighPersons 87 = .ok (.iastore, 1) := by decide +kernel
theorem d_X7_weighPersons_88 : decode cX7_weighPersons 88 = .ok (.iinc 2 1, 3) := by decide +kernel
theorem d_X7_weighPersons_91 : decode cX7_weighPersons 91 = .ok (.goto (-39), 3) := by decide +kernel
theorem d_X7_weighPersons_94 : decode cX7_weighPersons 94 = .ok (.return_, 1) := by decide +kernel
set_option maxRecDepth 100000 in
theorem L_X7_weighPersons {p : Program} {l : Launch} {e : Env} {s : State} {m : MethodId} {args : Array Value} {below : List Frame} {meth : Method} {c : Code} {D : va_G} {ca : Nat → ClassId} {ad sx sy : Nat → Nat} {A : Nat → Prop} {Q : QT} (C0 : CX p s m args meth c cX7_weighPersons 3 yX7_weighPersons.cls D ca ad A) (hE : EX sx sy A s s.heap) (hr : meth.sig.returnType = none) (hno : ∀ x ∈ c.exceptionTable.toList, False) : R_X7_weighPersons (JW p l e { frames := 12, cells := 0, slots := 6 * 0, locals := 240 } s m args below meth c 3 D ca ad A (vx_MQ below (Qn D ca ad A Q) (Qx D ca ad A Q) args s 0 (6 * 0) A) gz gz true) Q := ⟨s_aln C0 (d_X7_weighPersons_0) hgz (s_aln C0 (d_X7_weighPersons_1) hgz (s_callVN C0 hE (c_X6_allPounds l) wg471 wn468 wg470 ws2 wg3 ⟨by decide, by decide⟩ (by decide +kernel) (c0 := 6) rfl ⟨by decide, by decide⟩ ⟨by decide, by decide⟩ (d_X7_weighPersons_2) (fun x hx => (hno x hx).elim) ⟨by decide, by decide⟩ ⟨by decide, by decide⟩ (s_pi C0 (j := 0) (c0 := 7) rfl gX7 tyX7_ok nmX7 (by decide) rfl (by decide) rfl rfl wg344 (d_X7_weighPersons_5) hgz (s_aln C0 (d_X7_weighPersons_8) hgz (s_aln C0 (d_X7_weighPersons_9) hgz (s_giN C0 (j := 0) (c0 := 6) rfl gX6 (by decide) rfl (by decide) wn72 (d_X7_weighPersons_10) hgz (s_pi C0 (j := 1) (c0 := 7) rfl gX7 tyX7_ok nmX7 (by decide) rfl (by decide) rfl rfl wg345 (d_X7_weighPersons_13) hgz (s_ic C0 (d_X7_weighPersons_16) hgz (s_isn C0 (d_X7_weighPersons_17) hgz (fun _ _ _ h => h)) (okn rfl))))))))),
  s_iln C0 (d_X7_weighPersons_18) hgz (s_aln C0 (d_X7_weighPersons_19) hgz (s_gi C0 (j := 1) (c0 := 7) rfl gX7 (by decide) rfl (by decide) wg345 (d_X7_weighPersons_20) hgz (s_cge C0 (d_X7_weighPersons_23) (by decide) hgz hgz (fun _ _ _ h => h) (s_aln C0 (d_X7_weighPersons_26) hgz (s_gr C0 (j := 2) (c0 := 7) rfl gX7 (by decide) rfl rfl wg346 (d_X7_weighPersons_27) hgz (s_iln C0 (d_X7_weighPersons_30) hgz (s_aln C0 (d_X7_weighPersons_31) hgz (s_iln C0 (d_X7_weighPersons_32) hgz (s_callVN C0 hE (c_X6_ownPounds l) wg475 wn472 wg474 ws3 wg3 ⟨by decide, by decide⟩ (by decide +kernel) (c0 := 6) rfl ⟨by decide, by decide⟩ ⟨by decide, by decide⟩ (d_X7_weighPersons_33) (fun x hx => (hno x hx).elim) ⟨by decide, by decide⟩ ⟨by decide, by decide⟩ (s_iax C0 (d_X7_weighPersons_36) hgz (s_inc C0 (d_X7_weighPersons_37) hgz (s_goto C0 (tgt := 18) (d_X7_weighPersons_40) (by decide) hgz (fun _ _ _ h => h))))))))))))),
  s_aln C0 (d_X7_weighPersons_43) hgz (s_gr C0 (j := 3) (c0 := 7) rfl gX7 (by decide) rfl rfl wg347 (d_X7_weighPersons_44) hgz (s_ic C0 (d_X7_weighPersons_47) hgz (s_ic C0 (d_X7_weighPersons_48) hgz (s_iax C0 (d_X7_weighPersons_49) hgz (s_ic C0 (d_X7_weighPersons_50) hgz (s_isn C0 (d_X7_weighPersons_51) hgz (fun _ _ _ h => h)) (okn rfl))) (okn rfl)) (okn rfl))),
  s_iln C0 (d_X7_weighPersons_52) hgz (s_ic C0 (d_X7_weighPersons_53) hgz (s_aln C0 (d_X7_weighPersons_54) hgz (s_gi C0 (j := 1) (c0 := 7) rfl gX7 (by decide) rfl (by decide) wg345 (d_X7_weighPersons_55) hgz (s_shl C0 (d_X7_weighPersons_58) hgz (s_cge C0 (d_X7_weighPersons_59) (by decide) hgz hgz (fun _ _ _ h => h) (s_aln C0 (d_X7_weighPersons_62) hgz (s_gr C0 (j := 3) (c0 := 7) rfl gX7 (by decide) rfl rfl wg347 (d_X7_weighPersons_63) hgz (s_iln C0 (d_X7_weighPersons_66) hgz (s_aln C0 (d_X7_weighPersons_67) hgz (s_gr C0 (j := 3) (c0 := 7) rfl gX7 (by decide) rfl rfl wg347 (d_X7_weighPersons_68) hgz (s_iln C0 (d_X7_weighPersons_71) hgz (s_iln C0 (d_X7_weighPersons_72) hgz (s_ic C0 (d_X7_weighPersons_73) hgz (s_sub C0 (d_X7_weighPersons_74) hgz (s_and C0 (d_X7_weighPersons_75) hgz (s_ia C0 (d_X7_weighPersons_76) hgz (s_aln C0 (d_X7_weighPersons_77) hgz (s_gr C0 (j := 2) (c0 := 7) rfl gX7 (by decide) rfl rfl wg346 (d_X7_weighPersons_78) hgz (s_iln C0 (d_X7_weighPersons_81) hgz (s_callSN C0 hE (c_X10_lowestOf l) wg478 wn476 wg477 wg1 ⟨by decide, by decide⟩ (by decide +kernel) ⟨by decide, by decide⟩ ⟨by decide, by decide⟩ (d_X7_weighPersons_82) (fun x hx => (hno x hx).elim) ⟨by decide, by decide⟩ ⟨by decide, by decide⟩ (s_ia C0 (d_X7_weighPersons_85) hgz (s_add C0 (d_X7_weighPersons_86) hgz (s_iax C0 (d_X7_weighPersons_87) hgz (s_inc C0 (d_X7_weighPersons_88) hgz (s_goto C0 (tgt := 52) (d_X7_weighPersons_91) (by decide) hgz (fun _ _ _ h => h))))))))))))) (okn rfl))))))))))))) (okn rfl)),
  s_rv C0 hr (d_X7_weighPersons_94) ⟨by decide, by decide⟩⟩
theorem c_X7_weighPersons (l : Launch) : Ctr l yX7_weighPersons cX7_weighPersons 3 none 12 240 0 (fun sx => (nf G_X7_weighPersons)) := ctr_of (by decide) gz gz ⟨rfl, rfl⟩ (fun p e s m args below meth c D ca ad sx sy A Q as M C0 hE hr hno hF => P_X7_weighPersons (L_X7_weighPersons C0 hE hr hno) hF)
theorem wg467 : Cond.code ⟨"WeighedHall$Scales", "weighPersons", "(LWeighedHall$Plan;)V"⟩ prog_9_method_2_code 3 (Option.none : Option FieldType) ∈ GT := gt_mem 587 (by decide +kernel) rfl
theorem wn464 : Cond.methodLinkNest "WeighedHall" 259 ⟨"WeighedHall$Scales", "weighPersons", "(LWeighedHall$Plan;)V"⟩ "WeighedHall" ∈ NT := nt_mem 464 (by decide +kernel) rfl
theorem wg466 : Cond.instanceMethod ⟨"WeighedHall$Scales", "weighPersons", "(LWeighedHall$Plan;)V"⟩ ∈ GT := gt_mem 586 (by decide +kernel) rfl
theorem ws1 : Cond.selects "WeighedHall$Scales" ⟨"WeighedHall$Scales", "weighPersons", "(LWeighedHall$Plan;)V"⟩ ⟨"WeighedHall$Scales", "weighPersons", "(LWeighedHall$Plan;)V"⟩ ∈ GT := gt_mem 1 (by decide +kernel) rfl
theorem wg407 : Cond.fieldLink "WeighedHall" 85 "WeighedHall" "scales" "LWeighedHall$Scales;" ∈ GT := gt_mem 527 (by decide +kernel) rfl
theorem wg488 : Cond.code ⟨"WeighedHall$Scales", "swingsOf", "(I)I"⟩ prog_9_method_3_code 4 (Option.some .int) ∈ GT := gt_mem 608 (by decide +kernel) rfl
theorem wn485 : Cond.methodLinkNest "WeighedHall" 263 ⟨"WeighedHall$Scales", "swingsOf", "(I)I"⟩ "WeighedHall" ∈ NT := nt_mem 485 (by decide +kernel) rfl
theorem wg487 : Cond.instanceMethod ⟨"WeighedHall$Scales", "swingsOf", "(I)I"⟩ ∈ GT := gt_mem 607 (by decide +kernel) rfl
theorem ws4 : Cond.selects "WeighedHall$Scales" ⟨"WeighedHall$Scales", "swingsOf", "(I)I"⟩ ⟨"WeighedHall$Scales", "swingsOf", "(I)I"⟩ ∈ GT := gt_mem 4 (by decide +kernel) rfl
theorem wn74 : Cond.fieldLinkNest "WeighedHall" 132 "WeighedHall$Plan" "persons" "I" "WeighedHall" ∈ NT := nt_mem 74 (by decide +kernel) rfl
theorem d_X10_powers_0 : decode cX10_powers 0 = .ok (.aload_n 0, 1) := by decide +kernel
theorem d_X10_powers_1 : decode cX10_powers 1 = .ok (.getfield 85, 3) := by decide +kernel
theorem d_X10_powers_4 : decode cX10_powers 4 = .ok (.aload_n 0, 1) := by decide +kernel
theorem d_X10_powers_5 : decode cX10_powers 5 = .ok (.getfield 19, 3) := by decide +kernel
theorem d_X10_powers_8 : decode cX10_powers 8 = .ok (.invokevirtual 259, 3) := by decide +kernel
theorem d_X10_powers_11 : decode cX10_powers 11 = .ok (.iconst 0, 1) := by decide +kernel
theorem d_X10_powers_12 : decode cX10_powers 12 = .ok (.istore_n 1, 1) := by decide +kernel
theorem d_X10_powers_13 : decode cX10_powers 13 = .ok (.iconst 0, 1) := by decide +kernel
theorem d_X10_powers_14 : decode cX10_powers 14 = .ok (.istore_n 2, 1) := by decide +kernel
theorem d_X10_powers_15 : decode cX10_powers 15 = .ok (.iload_n 2, 1) := by decide +kernel
theorem d_X10_powers_16 : decode cX10_powers 16 = .ok (.aload_n 0, 1) := by decide +kernel
theorem d_X10_powers_17 : decode cX10_powers 17 = .ok (.getfield 19, 3) := by decide +kernel
theorem d_X10_powers_20 : decode cX10_powers 20 = .ok (.getfield 132, 3) := by decide +kernel
theorem d_X10_powers_23 : decode cX10_powers 23 = .ok (.if_icmp .ge 20, 3) := by decide +kernel
theorem d_X10_powers_26 : decode cX10_powers 26 = .ok (.iload_n 1, 1) := by decide +kernel
theorem d_X10_powers_27 : decode cX10_powers 27 = .ok (.aload_n 0, 1) := by decide +kernel
theorem d_X10_powers_28 : decode cX10_powers 28 = .ok (.getfield 85, 3) := by decide +kernel
theorem d_X10_powers_31 : decode cX10_powers 31 = .ok (.iload_n 2, 1) := by decide +kernel
theorem d_X10_powers_32 : decode cX10_powers 32 = .ok (.invokevirtual 263, 3) := by decide +kernel
theorem d_X10_powers_35 : decode cX10_powers 35 = .ok (.iadd, 1) := by decide +kernel
theorem d_X10_powers_36 : decode cX10_powers 36 = .ok (.istore_n 1, 1) := by decide +kernel
theorem d_X10_powers_37 : decode cX10_powers 37 = .ok (.iinc 2 1, 3) := by decide +kernel
theorem d_X10_powers_40 : decode cX10_powers 40 = .ok (.goto (-25), 3) := by decide +kernel
theorem d_X10_powers_43 : decode cX10_powers 43 = .ok (.iload_n 1, 1) := by decide +kernel
theorem d_X10_powers_44 : decode cX10_powers 44 = .ok (.ireturn, 1) := by decide +kernel
set_option maxRecDepth 100000 in
theorem L_X10_powers {p : Program} {l : Launch} {e : Env} {s : State} {m : MethodId} {args : Array Value} {below : List Frame} {meth : Method} {c : Code} {D : va_G} {ca : Nat → ClassId} {ad sx sy : Nat → Nat} {A : Nat → Prop} {Q : QT} (C0 : CX p s m args meth c cX10_powers 3 yX10_powers.cls D ca ad A) (hE : EX sx sy A s s.heap) (hr : meth.sig.returnType = (some .int)) (hno : ∀ x ∈ c.exceptionTable.toList, False) : R_X10_powers (JW p l e { frames := 13, cells := 0, slots := 6 * 0, locals := 262 } s m args below meth c 3 D ca ad A (vx_MQ below (Qn D ca ad A Q) (Qx D ca ad A Q) args s 0 (6 * 0) A) gz gz true) Q := ⟨s_aln C0 (d_X10_powers_0) hgz (s_gr C0 (j := 14) (c0 := 10) rfl gX10 (by decide) rfl rfl wg407 (d_X10_powers_1) hgz (s_aln C0 (d_X10_powers_4) hgz (s_gm C0 (j := 1) (c0 := 10) rfl gX10 (by decide) rfl rfl wg394 (d_X10_powers_5) hgz (s_callVN C0 hE (c_X7_weighPersons l) wg467 wn464 wg466 ws1 wg10 ⟨by decide, by decide⟩ (by decide +kernel) (c0 := 7) rfl ⟨by decide, by decide⟩ ⟨by decide, by decide⟩ (d_X10_powers_8) (fun x hx => (hno x hx).elim) ⟨by decide, by decide⟩ ⟨by decide, by decide⟩ (s_ic C0 (d_X10_powers_11) hgz (s_isn C0 (d_X10_powers_12) hgz (s_ic C0 (d_X10_powers_13) hgz (s_isn C0 (d_X10_powers_14) hgz (fun _ _ _ h => h)) (okn rfl))) (okn rfl)))))),
  s_iln C0 (d_X10_powers_15) hgz (s_aln C0 (d_X10_powers_16) hgz (s_gm C0 (j := 1) (c0 := 10) rfl gX10 (by decide) rfl rfl wg394 (d_X10_powers_17) hgz (s_giN C0 (j := 0) (c0 := 6) rfl gX6 (by decide) rfl (by decide) wn74 (d_X10_powers_20) hgz (s_cge C0 (d_X10_powers_23) (by decide) hgz hgz (fun _ _ _ h => h) (s_iln C0 (d_X10_powers_26) hgz (s_aln C0 (d_X10_powers_27) hgz (s_gr C0 (j := 14) (c0 := 10) rfl gX10 (by decide) rfl rfl wg407 (d_X10_powers_28) hgz (s_iln C0 (d_X10_powers_31) hgz (s_callVN C0 hE (c_X7_swingsOf l) wg488 wn485 wg487 ws4 wg10 ⟨by decide, by decide⟩ (by decide +kernel) (c0 := 7) rfl ⟨by decide, by decide⟩ ⟨by decide, by decide⟩ (d_X10_powers_32) (fun x hx => (hno x hx).elim) ⟨by decide, by decide⟩ ⟨by decide, by decide⟩ (s_add C0 (d_X10_powers_35) hgz (s_isn C0 (d_X10_powers_36) hgz (s_inc C0 (d_X10_powers_37) hgz (s_goto C0 (tgt := 15) (d_X10_powers_40) (by decide) hgz (fun _ _ _ h => h)))))))))))))),
  s_iln C0 (d_X10_powers_43) hgz (s_ri C0 hr (d_X10_powers_44) ⟨by decide, by decide⟩)⟩
theorem c_X10_powers (l : Launch) : Ctr l yX10_powers cX10_powers 3 (some .int) 13 262 0 (fun sx => (nf G_X10_powers)) := ctr_of (by decide) gz gz ⟨rfl, rfl⟩ (fun p e s m args below meth c D ca ad sx sy A Q as M C0 hE hr hno hF => P_X10_powers (L_X10_powers C0 hE hr hno) hF)
theorem d_X10_rootOf_0 : decode cX10_rootOf 0 = .ok (.iconst 0, 1) := by decide +kernel
theorem d_X10_rootOf_1 : decode cX10_rootOf 1 = .ok (.istore_n 1, 1) := by decide +kernel
theorem d_X10_rootOf_2 : decode cX10_rootOf 2 = .ok (.iconst 1, 1) := by decide +kernel
theorem d_X10_rootOf_3 : decode cX10_rootOf 3 = .ok (.istore_n 2, 1) := by decide +kernel
theorem d_X10_rootOf_4 : decode cX10_rootOf 4 = .ok (.iload_n 2, 1) := by decide +kernel
theorem d_X10_rootOf_5 : decode cX10_rootOf 5 = .ok (.bipush 40, 2) := by decide +kernel
theorem d_X10_rootOf_7 : decode cX10_rootOf 7 = .ok (.if_icmp .gt 18, 3) := by decide +kernel
theorem d_X10_rootOf_10 : decode cX10_rootOf 10 = .ok (.iload_n 2, 1) := by decide +kernel
theorem d_X10_rootOf_11 : decode cX10_rootOf 11 = .ok (.iload_n 2, 1) := by decide +kernel
theorem d_X10_rootOf_12 : decode cX10_rootOf 12 = .ok (.imul, 1) := by decide +kernel
theorem d_X10_rootOf_13 : decode cX10_rootOf 13 = .ok (.iload_n 0, 1) := by decide +kernel
theorem d_X10_rootOf_14 : decode cX10_rootOf 14 = .ok (.if_icmp .gt 11, 3) := by decide +kernel
theorem d_X10_rootOf_17 : decode cX10_rootOf 17 = .ok (.iload_n 2, 1) := by decide +kernel
theorem d_X10_rootOf_18 : decode cX10_rootOf 18 = .ok (.istore_n 1, 1) := by decide +kernel
theorem d_X10_rootOf_19 : decode cX10_rootOf 19 = .ok (.iinc 2 1, 3) := by decide +kernel
theorem d_X10_rootOf_22 : decode cX10_rootOf 22 = .ok (.goto (-18), 3) := by decide +kernel
theorem d_X10_rootOf_25 : decode cX10_rootOf 25 = .ok (.iload_n 1, 1) := by decide +kernel
theorem d_X10_rootOf_26 : decode cX10_rootOf 26 = .ok (.ireturn, 1) := by decide +kernel
set_option maxRecDepth 100000 in
theorem L_X10_rootOf {p : Program} {l : Launch} {e : Env} {s : State} {m : MethodId} {args : Array Value} {below : List Frame} {meth : Method} {c : Code} {D : va_G} {ca : Nat → ClassId} {ad sx sy : Nat → Nat} {A : Nat → Prop} {Q : QT} (C0 : CX p s m args meth c cX10_rootOf 3 yX10_rootOf.cls D ca ad A) (hE : EX sx sy A s s.heap) (hr : meth.sig.returnType = (some .int)) (hno : ∀ x ∈ c.exceptionTable.toList, False) : R_X10_rootOf (JW p l e { frames := 10, cells := 0, slots := 6 * 0, locals := 200 } s m args below meth c 3 D ca ad A (vx_MQ below (Qn D ca ad A Q) (Qx D ca ad A Q) args s 0 (6 * 0) A) gz gz true) Q := ⟨s_ic C0 (d_X10_rootOf_0) hgz (s_isn C0 (d_X10_rootOf_1) hgz (s_ic C0 (d_X10_rootOf_2) hgz (s_isn C0 (d_X10_rootOf_3) hgz (fun _ _ _ h => h)) (okn rfl))) (okn rfl),
  s_iln C0 (d_X10_rootOf_4) hgz (s_bi C0 (d_X10_rootOf_5) hgz (s_cgt C0 (d_X10_rootOf_7) (by decide) hgz hgz (fun _ _ _ h => h) (s_iln C0 (d_X10_rootOf_10) hgz (s_iln C0 (d_X10_rootOf_11) hgz (s_mul C0 (d_X10_rootOf_12) hgz (s_iln C0 (d_X10_rootOf_13) hgz (s_cgt C0 (d_X10_rootOf_14) (by decide) hgz hgz (fun _ _ _ h => h) (s_iln C0 (d_X10_rootOf_17) hgz (s_isn C0 (d_X10_rootOf_18) hgz (s_inc C0 (d_X10_rootOf_19) hgz (s_goto C0 (tgt := 4) (d_X10_rootOf_22) (by decide) hgz (fun _ _ _ h => h))))))))))) (okn rfl) rfl),
  s_iln C0 (d_X10_rootOf_25) hgz (s_ri C0 hr (d_X10_rootOf_26) ⟨by decide, by decide⟩)⟩
theorem c_X10_rootOf (l : Launch) : Ctr l yX10_rootOf cX10_rootOf 3 (some .int) 10 200 0 (fun sx => (nf G_X10_rootOf)) := ctr_of (by decide) gz gz ⟨rfl, rfl⟩ (fun p e s m args below meth c D ca ad sx sy A Q as M C0 hE hr hno hF => P_X10_rootOf (L_X10_rootOf C0 hE hr hno) hF)
theorem wg409 : Cond.fieldLink "WeighedHall" 335 "WeighedHall" "refusedElements" "I" ∈ GT := gt_mem 529 (by decide +kernel) rfl
theorem wg410 : Cond.fieldLink "WeighedHall" 338 "WeighedHall" "refusedArguments" "I" ∈ GT := gt_mem 530 (by decide +kernel) rfl
theorem d_X10_status_0 : decode cX10_status 0 = .ok (.iload_n 1, 1) := by decide +kernel
theorem d_X10_status_1 : decode cX10_status 1 = .ok (.ifCond .ne 8, 3) := by decide +kernel
theorem d_X10_status_4 : decode cX10_status 4 = .ok (.aload_n 0, 1) := by decide +kernel
theorem d_X10_status_5 : decode cX10_status 5 = .ok (.getfield 335, 3) := by decide +kernel
theorem d_X10_status_8 : decode cX10_status 8 = .ok (.ireturn, 1) := by decide +kernel
theorem d_X10_status_9 : decode cX10_status 9 = .ok (.iload_n 1, 1) := by decide +kernel
theorem d_X10_status_10 : decode cX10_status 10 = .ok (.iconst 1, 1) := by decide +kernel
theorem d_X10_status_11 : decode cX10_status 11 = .ok (.if_icmp .ne 10, 3) := by decide +kernel
theorem d_X10_status_14 : decode cX10_status 14 = .ok (.aload_n 0, 1) := by decide +kernel
theorem d_X10_status_15 : decode cX10_status 15 = .ok (.getfield 338, 3) := by decide +kernel
theorem d_X10_status_18 : decode cX10_status 18 = .ok (.goto 4, 3) := by decide +kernel
theorem d_X10_status_21 : decode cX10_status 21 = .ok (.iconst (-1), 1) := by decide +kernel
theorem d_X10_status_22 : decode cX10_status 22 = .ok (.ireturn, 1) := by decide +kernel
set_option maxRecDepth 100000 in
theorem L_X10_status {p : Program} {l : Launch} {e : Env} {s : State} {m : MethodId} {args : Array Value} {below : List Frame} {meth : Method} {c : Code} {D : va_G} {ca : Nat → ClassId} {ad sx sy : Nat → Nat} {A : Nat → Prop} {Q : QT} (C0 : CX p s m args meth c cX10_status 2 yX10_status.cls D ca ad A) (hE : EX sx sy A s s.heap) (hr : meth.sig.returnType = (some .int)) (hno : ∀ x ∈ c.exceptionTable.toList, False) : R_X10_status (JW p l e { frames := 10, cells := 0, slots := 6 * 0, locals := 200 } s m args below meth c 2 D ca ad A (vx_MQ below (Qn D ca ad A Q) (Qx D ca ad A Q) args s 0 (6 * 0) A) gz gz true) Q := ⟨s_iln C0 (d_X10_status_0) hgz (s_zne C0 (d_X10_status_1) (by decide) hgz hgz (fun _ _ _ h => h) (s_aln C0 (d_X10_status_4) hgz (s_gi C0 (j := 16) (c0 := 10) rfl gX10 (by decide) rfl (by decide) wg409 (d_X10_status_5) hgz (s_ri C0 hr (d_X10_status_8) ⟨by decide, by decide⟩)))),
  s_iln C0 (d_X10_status_9) hgz (s_ic C0 (d_X10_status_10) hgz (s_cne C0 (d_X10_status_11) (by decide) hgz hgz (fun _ _ _ h => h) (s_aln C0 (d_X10_status_14) hgz (s_gi C0 (j := 17) (c0 := 10) rfl gX10 (by decide) rfl (by decide) wg410 (d_X10_status_15) hgz (s_goto C0 (tgt := 22) (d_X10_status_18) (by decide) hgz (fun _ _ _ h => h))))) (okn rfl)),
  s_ic C0 (d_X10_status_21) hgz (fun _ _ _ h => h) (okn rfl),
  s_ri C0 hr (d_X10_status_22) ⟨by decide, by decide⟩⟩
theorem c_X10_status (l : Launch) : Ctr l yX10_status cX10_status 2 (some .int) 10 200 0 (fun sx => (nf G_X10_status)) := ctr_of (by decide) gz gz ⟨rfl, rfl⟩ (fun p e s m args below meth c D ca ad sx sy A Q as M C0 hE hr hno hF => P_X10_status (L_X10_status C0 hE hr hno) hF)
theorem wg348 : Cond.fieldLink "WeighedHall$Scales" 18 "WeighedHall$Scales" "partyOwn" "[I" ∈ GT := gt_mem 468 (by decide +kernel) rfl
theorem d_X7_isWinning_0 : decode cX7_isWinning 0 = .ok (.iconst 0, 1) := by decide +kernel
theorem d_X7_isWinning_1 : decode cX7_isWinning 1 = .ok (.istore_n 2, 1) := by decide +kernel
theorem d_X7_isWinning_2 : decode cX7_isWinning 2 = .ok (.iconst 0, 1) := by decide +kernel
theorem d_X7_isWinning_3 : decode cX7_isWinning 3 = .ok (.istore_n 3, 1) := by decide +kernel
theorem d_X7_isWinning_4 : decode cX7_isWinning 4 = .ok (.iload_n 3, 1) := by decide +kernel
theorem d_X7_isWinning_5 : decode cX7_isWinning 5 = .ok (.iconst 4, 1) := by decide +kernel
theorem d_X7_isWinning_6 : decode cX7_isWinning 6 = .ok (.if_icmp .ge 26, 3) := by decide +kernel
theorem d_X7_isWinning_9 : decode cX7_isWinning 9 = .ok (.iload_n 3, 1) := by decide +kernel
theorem d_X7_isWinning_10 : decode cX7_isWinning 10 = .ok (.iload_n 1, 1) := by decide +kernel
theorem d_X7_isWinning_11 : decode cX7_isWinning 11 = .ok (.invokestatic 42, 3) := by decide +kernel
theorem d_X7_isWinning_14 : decode cX7_isWinning 14 = .ok (.ifCond .eq 12, 3) := by decide +kernel
theorem d_X7_isWinning_17 : decode cX7_isWinning 17 = .ok (.iload_n 2, 1) := by decide +kernel
theorem d_X7_isWinning_18 : decode cX7_isWinning 18 = .ok (.aload_n 0, 1) := by decide +kernel
theorem d_X7_isWinning_19 : decode cX7_isWinning 19 = .ok (.getfield 18, 3) := by decide +kernel
theorem d_X7_isWinning_22 : decode cX7_isWinning 22 = .ok (.iload_n 3, 1) := by decide +kernel
theorem d_X7_isWinning_23 : decode cX7_isWinning 23 = .ok (.iaload, 1) := by decide +kernel
theorem d_X7_isWinning_24 : decode cX7_isWinning 24 = .ok (.iadd, 1) := by decide +kernel
theorem d_X7_isWinning_25 : decode cX7_isWinning 25 = .ok (.istore_n 2, 1) := by decide +kernel
theorem d_X7_isWinning_26 : decode cX7_isWinning 26 = .ok (.iinc 3 1, 3) := by decide +kernel
theorem d_X7_isWinning_29 : decode cX7_isWinning 29 = .ok (.goto (-25), 3) := by decide +kernel
theorem d_X7_isWinning_32 : decode cX7_isWinning 32 = .ok (.aload_n 0, 1) := by decide +kernel
theorem d_X7_isWinning_33 : decode cX7_isWinning 33 = .ok (.iload_n 2, 1) := by decide +kernel
theorem d_X7_isWinning_34 : decode cX7_isWinning 34 = .ok (.invokevirtual 46, 3) := by decide +kernel
theorem d_X7_isWinning_37 : decode cX7_isWinning 37 = .ok (.ireturn, 1) := by decide +kernel
set_option maxRecDepth 100000 in
theorem L_X7_isWinning {p : Program} {l : Launch} {e : Env} {s : State} {m : MethodId} {args : Array Value} {below : List Frame} {meth : Method} {c : Code} {D : va_G} {ca : Nat → ClassId} {ad sx sy : Nat → Nat} {A : Nat → Prop} {Q : QT} (C0 : CX p s m args meth c cX7_isWinning 4 yX7_isWinning.cls D ca ad A) (hE : EX sx sy A s s.heap) (hr : meth.sig.returnType = (some .boolean)) (hno : ∀ x ∈ c.exceptionTable.toList, False) : R_X7_isWinning (JW p l e { frames := 11, cells := 0, slots := 6 * 0, locals := 221 } s m args below meth c 4 D ca ad A (vx_MQ below (Qn D ca ad A Q) (Qx D ca ad A Q) args s 0 (6 * 0) A) gz gz true) Q := ⟨s_ic C0 (d_X7_isWinning_0) hgz (s_isn C0 (d_X7_isWinning_1) hgz (s_ic C0 (d_X7_isWinning_2) hgz (s_isn C0 (d_X7_isWinning_3) hgz (fun _ _ _ h => h)) (okn rfl))) (okn rfl),
  s_iln C0 (d_X7_isWinning_4) hgz (s_ic C0 (d_X7_isWinning_5) hgz (s_cge C0 (d_X7_isWinning_6) (by decide) hgz hgz (fun _ _ _ h => h) (s_iln C0 (d_X7_isWinning_9) hgz (s_iln C0 (d_X7_isWinning_10) hgz (s_callSN C0 hE (c_X10_isIn l) wg491 wn489 wg490 wg1 ⟨by decide, by decide⟩ (by decide +kernel) ⟨by decide, by decide⟩ ⟨by decide, by decide⟩ (d_X7_isWinning_11) (fun x hx => (hno x hx).elim) ⟨by decide, by decide⟩ ⟨by decide, by decide⟩ (s_zeq C0 (d_X7_isWinning_14) (by decide) hgz hgz (fun _ _ _ h => h) (s_iln C0 (d_X7_isWinning_17) hgz (s_aln C0 (d_X7_isWinning_18) hgz (s_gr C0 (j := 4) (c0 := 7) rfl gX7 (by decide) rfl rfl wg348 (d_X7_isWinning_19) hgz (s_iln C0 (d_X7_isWinning_22) hgz (s_ia C0 (d_X7_isWinning_23) hgz (s_add C0 (d_X7_isWinning_24) hgz (s_isn C0 (d_X7_isWinning_25) hgz (fun _ _ _ h => h))))))))))))) (okn rfl)),
  s_inc C0 (d_X7_isWinning_26) hgz (s_goto C0 (tgt := 4) (d_X7_isWinning_29) (by decide) hgz (fun _ _ _ h => h)),
  s_aln C0 (d_X7_isWinning_32) hgz (s_iln C0 (d_X7_isWinning_33) hgz (s_callV C0 hE (c_X7_isMore l) wg495 wg492 wg494 ws5 wg10 ⟨by decide, by decide⟩ (by decide +kernel) (c0 := 7) rfl ⟨by decide, by decide⟩ ⟨by decide, by decide⟩ (d_X7_isWinning_34) (fun x hx => (hno x hx).elim) ⟨by decide, by decide⟩ ⟨by decide, by decide⟩ (s_rz C0 hr (d_X7_isWinning_37) ⟨by decide, by decide⟩)))⟩
theorem c_X7_isWinning (l : Launch) : Ctr l yX7_isWinning cX7_isWinning 4 (some .boolean) 11 221 0 (fun sx => (nf G_X7_isWinning)) := ctr_of (by decide) gz gz ⟨rfl, rfl⟩ (fun p e s m args below meth c D ca ad sx sy A Q as M C0 hE hr hno hF => P_X7_isWinning (L_X7_isWinning C0 hE hr hno) hF)
theorem wg511 : Cond.code ⟨"WeighedHall$Scales", "isWinning", "(I)Z"⟩ prog_9_method_6_code 4 (Option.some .boolean) ∈ GT := gt_mem 631 (by decide +kernel) rfl
theorem wg508 : Cond.methodLink "WeighedHall$Scales" 53 ⟨"WeighedHall$Scales", "isWinning", "(I)Z"⟩ ∈ GT := gt_mem 628 (by decide +kernel) rfl
theorem wg510 : Cond.instanceMethod ⟨"WeighedHall$Scales", "isWinning", "(I)Z"⟩ ∈ GT := gt_mem 630 (by decide +kernel) rfl
theorem ws8 : Cond.selects "WeighedHall$Scales" ⟨"WeighedHall$Scales", "isWinning", "(I)Z"⟩ ⟨"WeighedHall$Scales", "isWinning", "(I)Z"⟩ ∈ GT := gt_mem 8 (by decide +kernel) rfl
theorem d_X7_isHoldingTogether_0 : decode cX7_isHoldingTogether 0 = .ok (.aload_n 0, 1) := by decide +kernel
theorem d_X7_isHoldingTogether_1 : decode cX7_isHoldingTogether 1 = .ok (.iload_n 1, 1) := by decide +kernel
theorem d_X7_isHoldingTogether_2 : decode cX7_isHoldingTogether 2 = .ok (.invokevirtual 53, 3) := by decide +kernel
theorem d_X7_isHoldingTogether_5 : decode cX7_isHoldingTogether 5 = .ok (.ifCond .ne 5, 3) := by decide +kernel
theorem d_X7_isHoldingTogether_8 : decode cX7_isHoldingTogether 8 = .ok (.iconst 0, 1) := by decide +kernel
theorem d_X7_isHoldingTogether_9 : decode cX7_isHoldingTogether 9 = .ok (.ireturn, 1) := by decide +kernel
theorem d_X7_isHoldingTogether_10 : decode cX7_isHoldingTogether 10 = .ok (.iconst 0, 1) := by decide +kernel
theorem d_X7_isHoldingTogether_11 : decode cX7_isHoldingTogether 11 = .ok (.istore_n 2, 1) := by decide +kernel
theorem d_X7_isHoldingTogether_12 : decode cX7_isHoldingTogether 12 = .ok (.iload_n 2, 1) := by decide +kernel
theorem d_X7_isHoldingTogether_13 : decode cX7_isHoldingTogether 13 = .ok (.iconst 4, 1) := by decide +kernel
theorem d_X7_isHoldingTogether_14 : decode cX7_isHoldingTogether 14 = .ok (.if_icmp .ge 31, 3) := by decide +kernel
theorem d_X7_isHoldingTogether_17 : decode cX7_isHoldingTogether 17 = .ok (.iload_n 2, 1) := by decide +kernel
theorem d_X7_isHoldingTogether_18 : decode cX7_isHoldingTogether 18 = .ok (.iload_n 1, 1) := by decide +kernel
theorem d_X7_isHoldingTogether_19 : decode cX7_isHoldingTogether 19 = .ok (.invokestatic 42, 3) := by decide +kernel
theorem d_X7_isHoldingTogether_22 : decode cX7_isHoldingTogether 22 = .ok (.ifCond .eq 17, 3) := by decide +kernel
theorem d_X7_isHoldingTogether_25 : decode cX7_isHoldingTogether 25 = .ok (.aload_n 0, 1) := by decide +kernel
theorem d_X7_isHoldingTogether_26 : decode cX7_isHoldingTogether 26 = .ok (.iload_n 1, 1) := by decide +kernel
theorem d_X7_isHoldingTogether_27 : decode cX7_isHoldingTogether 27 = .ok (.iconst 1, 1) := by decide +kernel
theorem d_X7_isHoldingTogether_28 : decode cX7_isHoldingTogether 28 = .ok (.iload_n 2, 1) := by decide +kernel
theorem d_X7_isHoldingTogether_29 : decode cX7_isHoldingTogether 29 = .ok (.ishl, 1) := by decide +kernel
theorem d_X7_isHoldingTogether_30 : decode cX7_isHoldingTogether 30 = .ok (.ixor, 1) := by decide +kernel
theorem d_X7_isHoldingTogether_31 : decode cX7_isHoldingTogether 31 = .ok (.invokevirtual 53, 3) := by decide +kernel
theorem d_X7_isHoldingTogether_34 : decode cX7_isHoldingTogether 34 = .ok (.ifCond .eq 5, 3) := by decide +kernel
theorem d_X7_isHoldingTogether_37 : decode cX7_isHoldingTogether 37 = .ok (.iconst 0, 1) := by decide +kernel
theorem d_X7_isHoldingTogether_38 : decode cX7_isHoldingTogether 38 = .ok (.ireturn, 1) := by decide +kernel
theorem d_X7_isHoldingTogether_39 : decode cX7_isHoldingTogether 39 = .ok (.iinc 2 1, 3) := by decide +kernel
theorem d_X7_isHoldingTogether_42 : decode cX7_isHoldingTogether 42 = .ok (.goto (-30), 3) := by decide +kernel
theorem d_X7_isHoldingTogether_45 : decode cX7_isHoldingTogether 45 = .ok (.iconst 1, 1) := by decide +kernel
theorem d_X7_isHoldingTogether_46 : decode cX7_isHoldingTogether 46 = .ok (.ireturn, 1) := by decide +kernel
set_option maxRecDepth 100000 in
theorem L_X7_isHoldingTogether {p : Program} {l : Launch} {e : Env} {s : State} {m : MethodId} {args : Array Value} {below : List Frame} {meth : Method} {c : Code} {D : va_G} {ca : Nat → ClassId} {ad sx sy : Nat → Nat} {A : Nat → Prop} {Q : QT} (C0 : CX p s m args meth c cX7_isHoldingTogether 3 yX7_isHoldingTogether.cls D ca ad A) (hE : EX sx sy A s s.heap) (hr : meth.sig.returnType = (some .boolean)) (hno : ∀ x ∈ c.exceptionTable.toList, False) : R_X7_isHoldingTogether (JW p l e { frames := 12, cells := 0, slots := 6 * 0, locals := 244 } s m args below meth c 3 D ca ad A (vx_MQ below (Qn D ca ad A Q) (Qx D ca ad A Q) args s 0 (6 * 0) A) gz gz true) Q := ⟨s_aln C0 (d_X7_isHoldingTogether_0) hgz (s_iln C0 (d_X7_isHoldingTogether_1) hgz (s_callV C0 hE (c_X7_isWinning l) wg511 wg508 wg510 ws8 wg10 ⟨by decide, by decide⟩ (by decide +kernel) (c0 := 7) rfl ⟨by decide, by decide⟩ ⟨by decide, by decide⟩ (d_X7_isHoldingTogether_2) (fun x hx => (hno x hx).elim) ⟨by decide, by decide⟩ ⟨by decide, by decide⟩ (s_zne C0 (d_X7_isHoldingTogether_5) (by decide) hgz hgz (fun _ _ _ h => h) (s_ic C0 (d_X7_isHoldingTogether_8) hgz (s_rz C0 hr (d_X7_isHoldingTogether_9) ⟨by decide, by decide⟩) (okn rfl))))),
  s_ic C0 (d_X7_isHoldingTogether_10) hgz (s_isn C0 (d_X7_isHoldingTogether_11) hgz (fun _ _ _ h => h)) (okn rfl),
  s_iln C0 (d_X7_isHoldingTogether_12) hgz (s_ic C0 (d_X7_isHoldingTogether_13) hgz (s_cge C0 (d_X7_isHoldingTogether_14) (by decide) hgz hgz (fun _ _ _ h => h) (s_iln C0 (d_X7_isHoldingTogether_17) hgz (s_iln C0 (d_X7_isHoldingTogether_18) hgz (s_callSN C0 hE (c_X10_isIn l) wg491 wn489 wg490 wg1 ⟨by decide, by decide⟩ (by decide +kernel) ⟨by decide, by decide⟩ ⟨by decide, by decide⟩ (d_X7_isHoldingTogether_19) (fun x hx => (hno x hx).elim) ⟨by decide, by decide⟩ ⟨by decide, by decide⟩ (s_zeq C0 (d_X7_isHoldingTogether_22) (by decide) hgz hgz (fun _ _ _ h => h) (s_aln C0 (d_X7_isHoldingTogether_25) hgz (s_iln C0 (d_X7_isHoldingTogether_26) hgz (s_ic C0 (d_X7_isHoldingTogether_27) hgz (s_iln C0 (d_X7_isHoldingTogether_28) hgz (s_shl C0 (d_X7_isHoldingTogether_29) hgz (s_xor C0 (d_X7_isHoldingTogether_30) hgz (s_callV C0 hE (c_X7_isWinning l) wg511 wg508 wg510 ws8 wg10 ⟨by decide, by decide⟩ (by decide +kernel) (c0 := 7) rfl ⟨by decide, by decide⟩ ⟨by decide, by decide⟩ (d_X7_isHoldingTogether_31) (fun x hx => (hno x hx).elim) ⟨by decide, by decide⟩ ⟨by decide, by decide⟩ (s_zeq C0 (d_X7_isHoldingTogether_34) (by decide) hgz hgz (fun _ _ _ h => h) (s_ic C0 (d_X7_isHoldingTogether_37) hgz (s_rz C0 hr (d_X7_isHoldingTogether_38) ⟨by decide, by decide⟩) (okn rfl))))))) (okn rfl))))))))) (okn rfl)),
  s_inc C0 (d_X7_isHoldingTogether_39) hgz (s_goto C0 (tgt := 12) (d_X7_isHoldingTogether_42) (by decide) hgz (fun _ _ _ h => h)),
  s_ic C0 (d_X7_isHoldingTogether_45) hgz (s_rz C0 hr (d_X7_isHoldingTogether_46) ⟨by decide, by decide⟩) (okn rfl)⟩
theorem c_X7_isHoldingTogether (l : Launch) : Ctr l yX7_isHoldingTogether cX7_isHoldingTogether 3 (some .boolean) 12 244 0 (fun sx => (nf G_X7_isHoldingTogether)) := ctr_of (by decide) gz gz ⟨rfl, rfl⟩ (fun p e s m args below meth c D ca ad sx sy A Q as M C0 hE hr hno hF => P_X7_isHoldingTogether (L_X7_isHoldingTogether C0 hE hr hno) hF)
theorem wn78 : Cond.fieldLinkNest "WeighedHall$Scales" 50 "WeighedHall$Plan" "party" "[I" "WeighedHall" ∈ NT := nt_mem 78 (by decide +kernel) rfl
theorem d_X7_weighParties_0 : decode cX7_weighParties 0 = .ok (.aload_n 0, 1) := by decide +kernel
theorem d_X7_weighParties_1 : decode cX7_weighParties 1 = .ok (.aload_n 1, 1) := by decide +kernel
theorem d_X7_weighParties_2 : decode cX7_weighParties 2 = .ok (.invokevirtual 21, 3) := by decide +kernel
theorem d_X7_weighParties_5 : decode cX7_weighParties 5 = .ok (.putfield 27, 3) := by decide +kernel
theorem d_X7_weighParties_8 : decode cX7_weighParties 8 = .ok (.iconst 0, 1) := by decide +kernel
theorem d_X7_weighParties_9 : decode cX7_weighParties 9 = .ok (.istore_n 2, 1) := by decide +kernel
theorem d_X7_weighParties_10 : decode cX7_weighParties 10 = .ok (.iload_n 2, 1) := by decide +kernel
theorem d_X7_weighParties_11 : decode cX7_weighParties 11 = .ok (.iconst 4, 1) := by decide +kernel
theorem d_X7_weighParties_12 : decode cX7_weighParties 12 = .ok (.if_icmp .ge 16, 3) := by decide +kernel
theorem d_X7_weighParties_15 : decode cX7_weighParties 15 = .ok (.aload_n 0, 1) := by decide +kernel
theorem d_X7_weighParties_16 : decode cX7_weighParties 16 = .ok (.getfield 18, 3) := by decide +kernel
theorem d_X7_weighParties_19 : decode cX7_weighParties 19 = .ok (.iload_n 2, 1) := by decide +kernel
theorem d_X7_weighParties_20 : decode cX7_weighParties 20 = .ok (.iconst 0, 1) := by decide +kernel
theorem d_X7_weighParties_21 : decode cX7_weighParties 21 = .ok (.iastore, 1) := by decide +kernel
theorem d_X7_weighParties_22 : decode cX7_weighParties 22 = .ok (.iinc 2 1, 3) := by decide +kernel
theorem d_X7_weighParties_25 : decode cX7_weighParties 25 = .ok (.goto (-15), 3) := by decide +kernel
theorem d_X7_weighParties_28 : decode cX7_weighParties 28 = .ok (.iconst 0, 1) := by decide +kernel
theorem d_X7_weighParties_29 : decode cX7_weighParties 29 = .ok (.istore_n 2, 1) := by decide +kernel
theorem d_X7_weighParties_30 : decode cX7_weighParties 30 = .ok (.iload_n 2, 1) := by decide +kernel
theorem d_X7_weighParties_31 : decode cX7_weighParties 31 = .ok (.aload_n 1, 1) := by decide +kernel
theorem d_X7_weighParties_32 : decode cX7_weighParties 32 = .ok (.getfield 31, 3) := by decide +kernel
theorem d_X7_weighParties_35 : decode cX7_weighParties 35 = .ok (.if_icmp .ge 39, 3) := by decide +kernel
theorem d_X7_weighParties_38 : decode cX7_weighParties 38 = .ok (.aload_n 1, 1) := by decide +kernel
theorem d_X7_weighParties_39 : decode cX7_weighParties 39 = .ok (.getfield 50, 3) := by decide +kernel
theorem d_X7_weighParties_42 : decode cX7_weighParties 42 = .ok (.iload_n 2, 1) := by decide +kernel
theorem d_X7_weighParties_43 : decode cX7_weighParties 43 = .ok (.iaload, 1) := by decide +kernel
theorem d_X7_weighParties_44 : decode cX7_weighParties 44 = .ok (.istore_n 3, 1) := by decide +kernel
theorem d_X7_weighParties_45 : decode cX7_weighParties 45 = .ok (.iload_n 3, 1) := by decide +kernel
theorem d_X7_weighParties_46 : decode cX7_weighParties 46 = .ok (.ifCond .lt 22, 3) := by decide +kernel
theorem d_X7_weighParties_49 : decode cX7_weighParties 49 = .ok (.iload_n 3, 1) := by decide +kernel
theorem d_X7_weighParties_50 : decode cX7_weighParties 50 = .ok (.iconst 4, 1) := by decide +kernel
theorem d_X7_weighParties_51 : decode cX7_weighParties 51 = .ok (.if_icmp .ge 17, 3) := by decide +kernel
theorem d_X7_weighParties_54 : decode cX7_weighParties 54 = .ok (.aload_n 0, 1) := by decide +kernel
theorem d_X7_weighParties_55 : decode cX7_weighParties 55 = .ok (.getfield 18, 3) := by decide +kernel
theorem d_X7_weighParties_58 : decode cX7_weighParties 58 = .ok (.iload_n 3, 1) := by decide +kernel
theorem d_X7_weighParties_59 : decode cX7_weighParties 59 = .ok (.dup2, 1) := by decide +kernel
theorem d_X7_weighParties_60 : decode cX7_weighParties 60 = .ok (.iaload, 1) := by decide +kernel
theorem d_X7_weighParties_61 : decode cX7_weighParties 61 = .ok (.aload_n 1, 1) := by decide +kernel
theorem d_X7_weighParties_62 : decode cX7_weighParties 62 = .ok (.iload_n 2, 1) := by decide +kernel
theorem d_X7_weighParties_63 : decode cX7_weighParties 63 = .ok (.invokevirtual 35, 3) := by decide +kernel
theorem d_X7_weighParties_66 : decode cX7_weighParties 66 = .ok (.iadd, 1) := by decide +kernel
theorem d_X7_weighParties_67 : decode cX7_weighParties 67 = .ok (.iastore, 1) := by decide +kernel
theorem d_X7_weighParties_68 : decode cX7_weighParties 68 = .ok (.iinc 2 1, 3) := by decide +kernel
theorem d_X7_weighParties_71 : decode cX7_weighParties 71 = .ok (.goto (-41), 3) := by decide +kernel
theorem d_X7_weighParties_74 : decode cX7_weighParties 74 = .ok (.return_, 1) := by decide +kernel
set_option maxRecDepth 100000 in
theorem L_X7_weighParties {p : Program} {l : Launch} {e : Env} {s : State} {m : MethodId} {args : Array Value} {below : List Frame} {meth : Method} {c : Code} {D : va_G} {ca : Nat → ClassId} {ad sx sy : Nat → Nat} {A : Nat → Prop} {Q : QT} (C0 : CX p s m args meth c cX7_weighParties 4 yX7_weighParties.cls D ca ad A) (hE : EX sx sy A s s.heap) (hr : meth.sig.returnType = none) (hno : ∀ x ∈ c.exceptionTable.toList, False) : R_X7_weighParties (JW p l e { frames := 11, cells := 0, slots := 6 * 0, locals := 223 } s m args below meth c 4 D ca ad A (vx_MQ below (Qn D ca ad A Q) (Qx D ca ad A Q) args s 0 (6 * 0) A) gz gz true) Q := ⟨s_aln C0 (d_X7_weighParties_0) hgz (s_aln C0 (d_X7_weighParties_1) hgz (s_callVN C0 hE (c_X6_allPounds l) wg471 wn468 wg470 ws2 wg3 ⟨by decide, by decide⟩ (by decide +kernel) (c0 := 6) rfl ⟨by decide, by decide⟩ ⟨by decide, by decide⟩ (d_X7_weighParties_2) (fun x hx => (hno x hx).elim) ⟨by decide, by decide⟩ ⟨by decide, by decide⟩ (s_pi C0 (j := 0) (c0 := 7) rfl gX7 tyX7_ok nmX7 (by decide) rfl (by decide) rfl rfl wg344 (d_X7_weighParties_5) hgz (s_ic C0 (d_X7_weighParties_8) hgz (s_isn C0 (d_X7_weighParties_9) hgz (fun _ _ _ h => h)) (okn rfl))))),
  s_iln C0 (d_X7_weighParties_10) hgz (s_ic C0 (d_X7_weighParties_11) hgz (s_cge C0 (d_X7_weighParties_12) (by decide) hgz hgz (fun _ _ _ h => h) (s_aln C0 (d_X7_weighParties_15) hgz (s_gr C0 (j := 4) (c0 := 7) rfl gX7 (by decide) rfl rfl wg348 (d_X7_weighParties_16) hgz (s_iln C0 (d_X7_weighParties_19) hgz (s_ic C0 (d_X7_weighParties_20) hgz (s_iax C0 (d_X7_weighParties_21) hgz (s_inc C0 (d_X7_weighParties_22) hgz (s_goto C0 (tgt := 10) (d_X7_weighParties_25) (by decide) hgz (fun _ _ _ h => h)))) (okn rfl)))))) (okn rfl)),
  s_ic C0 (d_X7_weighParties_28) hgz (s_isn C0 (d_X7_weighParties_29) hgz (fun _ _ _ h => h)) (okn rfl),
  s_iln C0 (d_X7_weighParties_30) hgz (s_aln C0 (d_X7_weighParties_31) hgz (s_giN C0 (j := 0) (c0 := 6) rfl gX6 (by decide) rfl (by decide) wn72 (d_X7_weighParties_32) hgz (s_cge C0 (d_X7_weighParties_35) (by decide) hgz hgz (fun _ _ _ h => h) (s_aln C0 (d_X7_weighParties_38) hgz (s_grN C0 (j := 1) (c0 := 6) rfl gX6 (by decide) rfl rfl wn78 (d_X7_weighParties_39) hgz (s_iln C0 (d_X7_weighParties_42) hgz (s_ia C0 (d_X7_weighParties_43) hgz (s_isn C0 (d_X7_weighParties_44) hgz (s_iln C0 (d_X7_weighParties_45) hgz (s_zlt C0 (d_X7_weighParties_46) (by decide) hgz hgz (fun _ _ _ h => h) (s_iln C0 (d_X7_weighParties_49) hgz (s_ic C0 (d_X7_weighParties_50) hgz (s_cge C0 (d_X7_weighParties_51) (by decide) hgz hgz (fun _ _ _ h => h) (s_aln C0 (d_X7_weighParties_54) hgz (s_gr C0 (j := 4) (c0 := 7) rfl gX7 (by decide) rfl rfl wg348 (d_X7_weighParties_55) hgz (s_iln C0 (d_X7_weighParties_58) hgz (s_dup2 C0 (d_X7_weighParties_59) hgz (s_ia C0 (d_X7_weighParties_60) hgz (s_aln C0 (d_X7_weighParties_61) hgz (s_iln C0 (d_X7_weighParties_62) hgz (s_callVN C0 hE (c_X6_ownPounds l) wg475 wn472 wg474 ws3 wg3 ⟨by decide, by decide⟩ (by decide +kernel) (c0 := 6) rfl ⟨by decide, by decide⟩ ⟨by decide, by decide⟩ (d_X7_weighParties_63) (fun x hx => (hno x hx).elim) ⟨by decide, by decide⟩ ⟨by decide, by decide⟩ (s_add C0 (d_X7_weighParties_66) hgz (s_iax C0 (d_X7_weighParties_67) hgz (fun _ _ _ h => h)))))))))))) (okn rfl))))))))))))),
  s_inc C0 (d_X7_weighParties_68) hgz (s_goto C0 (tgt := 30) (d_X7_weighParties_71) (by decide) hgz (fun _ _ _ h => h)),
  s_rv C0 hr (d_X7_weighParties_74) ⟨by decide, by decide⟩⟩
theorem c_X7_weighParties (l : Launch) : Ctr l yX7_weighParties cX7_weighParties 4 none 11 223 0 (fun sx => (nf G_X7_weighParties)) := ctr_of (by decide) gz gz ⟨rfl, rfl⟩ (fun p e s m args below meth c D ca ad sx sy A Q as M C0 hE hr hno hF => P_X7_weighParties (L_X7_weighParties C0 hE hr hno) hF)
theorem wg503 : Cond.code ⟨"WeighedHall$Scales", "weighParties", "(LWeighedHall$Plan;)V"⟩ prog_9_method_4_code 4 (Option.none : Option FieldType) ∈ GT := gt_mem 623 (by decide +kernel) rfl
theorem wn500 : Cond.methodLinkNest "WeighedHall" 266 ⟨"WeighedHall$Scales", "weighParties", "(LWeighedHall$Plan;)V"⟩ "WeighedHall" ∈ NT := nt_mem 500 (by decide +kernel) rfl
theorem wg502 : Cond.instanceMethod ⟨"WeighedHall$Scales", "weighParties", "(LWeighedHall$Plan;)V"⟩ ∈ GT := gt_mem 622 (by decide +kernel) rfl
theorem ws6 : Cond.selects "WeighedHall$Scales" ⟨"WeighedHall$Scales", "weighParties", "(LWeighedHall$Plan;)V"⟩ ⟨"WeighedHall$Scales", "weighParties", "(LWeighedHall$Plan;)V"⟩ ∈ GT := gt_mem 6 (by decide +kernel) rfl
theorem wg507 : Cond.code ⟨"WeighedHall$Scales", "isHoldingTogether", "(I)Z"⟩ prog_9_method_7_code 3 (Option.some .boolean) ∈ GT := gt_mem 627 (by decide +kernel) rfl
theorem wn504 : Cond.methodLinkNest "WeighedHall" 281 ⟨"WeighedHall$Scales", "isHoldingTogether", "(I)Z"⟩ "WeighedHall" ∈ NT := nt_mem 504 (by decide +kernel) rfl
theorem wg506 : Cond.instanceMethod ⟨"WeighedHall$Scales", "isHoldingTogether", "(I)Z"⟩ ∈ GT := gt_mem 626 (by decide +kernel) rfl
theorem ws7 : Cond.selects "WeighedHall$Scales" ⟨"WeighedHall$Scales", "isHoldingTogether", "(I)Z"⟩ ⟨"WeighedHall$Scales", "isHoldingTogether", "(I)Z"⟩ ∈ GT := gt_mem 7 (by decide +kernel) rfl
theorem d_X10_together_0 : decode cX10_together 0 = .ok (.aload_n 0, 1) := by decide +kernel
theorem d_X10_together_1 : decode cX10_together 1 = .ok (.getfield 85, 3) := by decide +kernel
theorem d_X10_together_4 : decode cX10_together 4 = .ok (.aload_n 0, 1) := by decide +kernel
theorem d_X10_together_5 : decode cX10_together 5 = .ok (.getfield 19, 3) := by decide +kernel
theorem d_X10_together_8 : decode cX10_together 8 = .ok (.invokevirtual 266, 3) := by decide +kernel
theorem d_X10_together_11 : decode cX10_together 11 = .ok (.iconst 0, 1) := by decide +kernel
theorem d_X10_together_12 : decode cX10_together 12 = .ok (.istore_n 2, 1) := by decide +kernel
theorem d_X10_together_13 : decode cX10_together 13 = .ok (.iconst 0, 1) := by decide +kernel
theorem d_X10_together_14 : decode cX10_together 14 = .ok (.istore_n 3, 1) := by decide +kernel
theorem d_X10_together_15 : decode cX10_together 15 = .ok (.iload_n 3, 1) := by decide +kernel
theorem d_X10_together_16 : decode cX10_together 16 = .ok (.bipush 16, 2) := by decide +kernel
theorem d_X10_together_18 : decode cX10_together 18 = .ok (.if_icmp .ge 30, 3) := by decide +kernel
theorem d_X10_together_21 : decode cX10_together 21 = .ok (.aload_n 0, 1) := by decide +kernel
theorem d_X10_together_22 : decode cX10_together 22 = .ok (.getfield 85, 3) := by decide +kernel
theorem d_X10_together_25 : decode cX10_together 25 = .ok (.iload_n 3, 1) := by decide +kernel
theorem d_X10_together_26 : decode cX10_together 26 = .ok (.invokevirtual 281, 3) := by decide +kernel
theorem d_X10_together_29 : decode cX10_together 29 = .ok (.ifCond .eq 13, 3) := by decide +kernel
theorem d_X10_together_32 : decode cX10_together 32 = .ok (.iload_n 2, 1) := by decide +kernel
theorem d_X10_together_33 : decode cX10_together 33 = .ok (.iload_n 1, 1) := by decide +kernel
theorem d_X10_together_34 : decode cX10_together 34 = .ok (.if_icmp .ne 5, 3) := by decide +kernel
theorem d_X10_together_37 : decode cX10_together 37 = .ok (.iload_n 3, 1) := by decide +kernel
theorem d_X10_together_38 : decode cX10_together 38 = .ok (.ireturn, 1) := by decide +kernel
theorem d_X10_together_39 : decode cX10_together 39 = .ok (.iinc 2 1, 3) := by decide +kernel
theorem d_X10_together_42 : decode cX10_together 42 = .ok (.iinc 3 1, 3) := by decide +kernel
theorem d_X10_together_45 : decode cX10_together 45 = .ok (.goto (-30), 3) := by decide +kernel
theorem d_X10_together_48 : decode cX10_together 48 = .ok (.iconst (-1), 1) := by decide +kernel
theorem d_X10_together_49 : decode cX10_together 49 = .ok (.ireturn, 1) := by decide +kernel
set_option maxRecDepth 100000 in
theorem L_X10_together {p : Program} {l : Launch} {e : Env} {s : State} {m : MethodId} {args : Array Value} {below : List Frame} {meth : Method} {c : Code} {D : va_G} {ca : Nat → ClassId} {ad sx sy : Nat → Nat} {A : Nat → Prop} {Q : QT} (C0 : CX p s m args meth c cX10_together 4 yX10_together.cls D ca ad A) (hE : EX sx sy A s s.heap) (hr : meth.sig.returnType = (some .int)) (hno : ∀ x ∈ c.exceptionTable.toList, False) : R_X10_together (JW p l e { frames := 13, cells := 0, slots := 6 * 0, locals := 266 } s m args below meth c 4 D ca ad A (vx_MQ below (Qn D ca ad A Q) (Qx D ca ad A Q) args s 0 (6 * 0) A) gz gz true) Q := ⟨s_aln C0 (d_X10_together_0) hgz (s_gr C0 (j := 14) (c0 := 10) rfl gX10 (by decide) rfl rfl wg407 (d_X10_together_1) hgz (s_aln C0 (d_X10_together_4) hgz (s_gm C0 (j := 1) (c0 := 10) rfl gX10 (by decide) rfl rfl wg394 (d_X10_together_5) hgz (s_callVN C0 hE (c_X7_weighParties l) wg503 wn500 wg502 ws6 wg10 ⟨by decide, by decide⟩ (by decide +kernel) (c0 := 7) rfl ⟨by decide, by decide⟩ ⟨by decide, by decide⟩ (d_X10_together_8) (fun x hx => (hno x hx).elim) ⟨by decide, by decide⟩ ⟨by decide, by decide⟩ (s_ic C0 (d_X10_together_11) hgz (s_isn C0 (d_X10_together_12) hgz (s_ic C0 (d_X10_together_13) hgz (s_isn C0 (d_X10_together_14) hgz (fun _ _ _ h => h)) (okn rfl))) (okn rfl)))))),
  s_iln C0 (d_X10_together_15) hgz (s_bi C0 (d_X10_together_16) hgz (s_cge C0 (d_X10_together_18) (by decide) hgz hgz (fun _ _ _ h => h) (s_aln C0 (d_X10_together_21) hgz (s_gr C0 (j := 14) (c0 := 10) rfl gX10 (by decide) rfl rfl wg407 (d_X10_together_22) hgz (s_iln C0 (d_X10_together_25) hgz (s_callVN C0 hE (c_X7_isHoldingTogether l) wg507 wn504 wg506 ws7 wg10 ⟨by decide, by decide⟩ (by decide +kernel) (c0 := 7) rfl ⟨by decide, by decide⟩ ⟨by decide, by decide⟩ (d_X10_together_26) (fun x hx => (hno x hx).elim) ⟨by decide, by decide⟩ ⟨by decide, by decide⟩ (s_zeq C0 (d_X10_together_29) (by decide) hgz hgz (fun _ _ _ h => h) (s_iln C0 (d_X10_together_32) hgz (s_iln C0 (d_X10_together_33) hgz (s_cne C0 (d_X10_together_34) (by decide) hgz hgz (fun _ _ _ h => h) (s_iln C0 (d_X10_together_37) hgz (s_ri C0 hr (d_X10_together_38) ⟨by decide, by decide⟩))))))))))) (okn rfl) rfl),
  s_inc C0 (d_X10_together_39) hgz (fun _ _ _ h => h),
  s_inc C0 (d_X10_together_42) hgz (s_goto C0 (tgt := 15) (d_X10_together_45) (by decide) hgz (fun _ _ _ h => h)),
  s_ic C0 (d_X10_together_48) hgz (s_ri C0 hr (d_X10_together_49) ⟨by decide, by decide⟩) (okn rfl)⟩
theorem c_X10_together (l : Launch) : Ctr l yX10_together cX10_together 4 (some .int) 13 266 0 (fun sx => (nf G_X10_together)) := ctr_of (by decide) gz gz ⟨rfl, rfl⟩ (fun p e s m args below meth c D ca ad sx sy A Q as M C0 hE hr hno hF => P_X10_together (L_X10_together C0 hE hr hno) hF)
theorem wg1216 : Cond.fieldLink "WeighedHallModel" 37 "WeighedHallModel" "thing" "[[I" ∈ GT := gt_mem 1336 (by decide +kernel) rfl
theorem wg1212 : Cond.fieldLink "WeighedHallModel" 23 "WeighedHallModel" "told" "[I" ∈ GT := gt_mem 1332 (by decide +kernel) rfl
theorem d_X11_all_0 : decode cX11_all 0 = .ok (.iconst 0, 1) := by decide +kernel
theorem d_X11_all_1 : decode cX11_all 1 = .ok (.istore_n 1, 1) := by decide +kernel
theorem d_X11_all_2 : decode cX11_all 2 = .ok (.iconst 0, 1) := by decide +kernel
theorem d_X11_all_3 : decode cX11_all 3 = .ok (.istore_n 2, 1) := by decide +kernel
theorem d_X11_all_4 : decode cX11_all 4 = .ok (.iload_n 2, 1) := by decide +kernel
theorem d_X11_all_5 : decode cX11_all 5 = .ok (.aload_n 0, 1) := by decide +kernel
theorem d_X11_all_6 : decode cX11_all 6 = .ok (.getfield 23, 3) := by decide +kernel
theorem d_X11_all_9 : decode cX11_all 9 = .ok (.iconst 1, 1) := by decide +kernel
theorem d_X11_all_10 : decode cX11_all 10 = .ok (.iaload, 1) := by decide +kernel
theorem d_X11_all_11 : decode cX11_all 11 = .ok (.if_icmp .ge 20, 3) := by decide +kernel
theorem d_X11_all_14 : decode cX11_all 14 = .ok (.iload_n 1, 1) := by decide +kernel
theorem d_X11_all_15 : decode cX11_all 15 = .ok (.aload_n 0, 1) := by decide +kernel
theorem d_X11_all_16 : decode cX11_all 16 = .ok (.getfield 37, 3) := by decide +kernel
theorem d_X11_all_19 : decode cX11_all 19 = .ok (.iload_n 2, 1) := by decide +kernel
theorem d_X11_all_20 : decode cX11_all 20 = .ok (.aaload, 1) := by decide +kernel
theorem d_X11_all_21 : decode cX11_all 21 = .ok (.iconst 1, 1) := by decide +kernel
theorem d_X11_all_22 : decode cX11_all 22 = .ok (.iaload, 1) := by decide +kernel
theorem d_X11_all_23 : decode cX11_all 23 = .ok (.iadd, 1) := by decide +kernel
theorem d_X11_all_24 : decode cX11_all 24 = .ok (.istore_n 1, 1) := by decide +kernel
theorem d_X11_all_25 : decode cX11_all 25 = .ok (.iinc 2 1, 3) := by decide +kernel
theorem d_X11_all_28 : decode cX11_all 28 = .ok (.goto (-24), 3) := by decide +kernel
theorem d_X11_all_31 : decode cX11_all 31 = .ok (.iload_n 1, 1) := by decide +kernel
theorem d_X11_all_32 : decode cX11_all 32 = .ok (.ireturn, 1) := by decide +kernel
set_option maxRecDepth 100000 in
theorem L_X11_all {p : Program} {l : Launch} {e : Env} {s : State} {m : MethodId} {args : Array Value} {below : List Frame} {meth : Method} {c : Code} {D : va_G} {ca : Nat → ClassId} {ad sx sy : Nat → Nat} {A : Nat → Prop} {Q : QT} (C0 : CX p s m args meth c cX11_all 3 yX11_all.cls D ca ad A) (hE : EX sx sy A s s.heap) (hr : meth.sig.returnType = (some .int)) (hno : ∀ x ∈ c.exceptionTable.toList, False) : R_X11_all (JW p l e { frames := 10, cells := 0, slots := 6 * 0, locals := 200 } s m args below meth c 3 D ca ad A (vx_MQ below (Qn D ca ad A Q) (Qx D ca ad A Q) args s 0 (6 * 0) A) gz gz true) Q := ⟨s_ic C0 (d_X11_all_0) hgz (s_isn C0 (d_X11_all_1) hgz (s_ic C0 (d_X11_all_2) hgz (s_isn C0 (d_X11_all_3) hgz (fun _ _ _ h => h)) (okn rfl))) (okn rfl),
  s_iln C0 (d_X11_all_4) hgz (s_aln C0 (d_X11_all_5) hgz (s_gr C0 (j := 11) (c0 := 11) rfl gX11 (by decide) rfl rfl wg1212 (d_X11_all_6) hgz (s_ic C0 (d_X11_all_9) hgz (s_ia C0 (d_X11_all_10) hgz (s_cge C0 (d_X11_all_11) (by decide) hgz hgz (fun _ _ _ h => h) (s_iln C0 (d_X11_all_14) hgz (s_aln C0 (d_X11_all_15) hgz (s_gr C0 (j := 15) (c0 := 11) rfl gX11 (by decide) rfl rfl wg1216 (d_X11_all_16) hgz (s_iln C0 (d_X11_all_19) hgz (s_aa C0 (by decide) (by decide) rfl rfl (d_X11_all_20) hgz (s_ic C0 (d_X11_all_21) hgz (s_ia C0 (d_X11_all_22) hgz (s_add C0 (d_X11_all_23) hgz (s_isn C0 (d_X11_all_24) hgz (s_inc C0 (d_X11_all_25) hgz (s_goto C0 (tgt := 4) (d_X11_all_28) (by decide) hgz (fun _ _ _ h => h)))))) (okn rfl))))))))) (okn rfl)))),
  s_iln C0 (d_X11_all_31) hgz (s_ri C0 hr (d_X11_all_32) ⟨by decide, by decide⟩)⟩
theorem c_X11_all (l : Launch) : Ctr l yX11_all cX11_all 3 (some .int) 10 200 0 (fun sx => (nf G_X11_all)) := ctr_of (by decide) gz gz ⟨rfl, rfl⟩ (fun p e s m args below meth c D ca ad sx sy A Q as M C0 hE hr hno hF => P_X11_all (L_X11_all C0 hE hr hno) hF)
theorem wg1224 : Cond.fieldLink "WeighedHallModel" 202 "WeighedHallModel" "votes" "I" ∈ GT := gt_mem 1344 (by decide +kernel) rfl
theorem wg1227 : Cond.fieldLink "WeighedHallModel" 58 "WeighedHallModel" "vote" "[[I" ∈ GT := gt_mem 1347 (by decide +kernel) rfl
theorem d_X11_areRight_0 : decode cX11_areRight 0 = .ok (.iconst 0, 1) := by decide +kernel
theorem d_X11_areRight_1 : decode cX11_areRight 1 = .ok (.istore_n 2, 1) := by decide +kernel
theorem d_X11_areRight_2 : decode cX11_areRight 2 = .ok (.iload_n 2, 1) := by decide +kernel
theorem d_X11_areRight_3 : decode cX11_areRight 3 = .ok (.aload_n 0, 1) := by decide +kernel
theorem d_X11_areRight_4 : decode cX11_areRight 4 = .ok (.getfield 202, 3) := by decide +kernel
theorem d_X11_areRight_7 : decode cX11_areRight 7 = .ok (.if_icmp .ge 143, 3) := by decide +kernel
theorem d_X11_areRight_10 : decode cX11_areRight 10 = .ok (.iconst 0, 1) := by decide +kernel
theorem d_X11_areRight_11 : decode cX11_areRight 11 = .ok (.istore_n 3, 1) := by decide +kernel
theorem d_X11_areRight_12 : decode cX11_areRight 12 = .ok (.iconst 0, 1) := by decide +kernel
theorem d_X11_areRight_13 : decode cX11_areRight 13 = .ok (.istore 4, 2) := by decide +kernel
theorem d_X11_areRight_15 : decode cX11_areRight 15 = .ok (.iload 4, 2) := by decide +kernel
theorem d_X11_areRight_17 : decode cX11_areRight 17 = .ok (.aload_n 0, 1) := by decide +kernel
theorem d_X11_areRight_18 : decode cX11_areRight 18 = .ok (.getfield 23, 3) := by decide +kernel
theorem d_X11_areRight_21 : decode cX11_areRight 21 = .ok (.iconst 1, 1) := by decide +kernel
theorem d_X11_areRight_22 : decode cX11_areRight 22 = .ok (.iaload, 1) := by decide +kernel
theorem d_X11_areRight_23 : decode cX11_areRight 23 = .ok (.if_icmp .ge 107, 3) := by decide +kernel
theorem d_X11_areRight_26 : decode cX11_areRight 26 = .ok (.iload_n 1, 1) := by decide +kernel
theorem d_X11_areRight_27 : decode cX11_areRight 27 = .ok (.iload 4, 2) := by decide +kernel
theorem d_X11_areRight_29 : decode cX11_areRight 29 = .ok (.ishr, 1) := by decide +kernel
theorem d_X11_areRight_30 : decode cX11_areRight 30 = .ok (.iconst 1, 1) := by decide +kernel
theorem d_X11_areRight_31 : decode cX11_areRight 31 = .ok (.iand, 1) := by decide +kernel
theorem d_X11_areRight_32 : decode cX11_areRight 32 = .ok (.iconst 1, 1) := by decide +kernel
theorem d_X11_areRight_33 : decode cX11_areRight 33 = .ok (.if_icmp .ne 17, 3) := by decide +kernel
theorem d_X11_areRight_36 : decode cX11_areRight 36 = .ok (.aload_n 0, 1) := by decide +kernel
theorem d_X11_areRight_37 : decode cX11_areRight 37 = .ok (.getfield 37, 3) := by decide +kernel
theorem d_X11_areRight_40 : decode cX11_areRight 40 = .ok (.iload 4, 2) := by decide +kernel
theorem d_X11_areRight_42 : decode cX11_areRight 42 = .ok (.aaload, 1) := by decide +kernel
theorem d_X11_areRight_43 : decode cX11_areRight 43 = .ok (.iconst 1, 1) := by decide +kernel
theorem d_X11_areRight_44 : decode cX11_areRight 44 = .ok (.iaload, 1) := by decide +kernel
theorem d_X11_areRight_45 : decode cX11_areRight 45 = .ok (.iconst 2, 1) := by decide +kernel
theorem d_X11_areRight_46 : decode cX11_areRight 46 = .ok (.idiv, 1) := by decide +kernel
theorem d_X11_areRight_47 : decode cX11_areRight 47 = .ok (.goto 12, 3) := by decide +kernel
theorem d_X11_areRight_50 : decode cX11_areRight 50 = .ok (.aload_n 0, 1) := by decide +kernel
theorem d_X11_areRight_51 : decode cX11_areRight 51 = .ok (.getfield 37, 3) := by decide +kernel
theorem d_X11_areRight_54 : decode cX11_areRight 54 = .ok (.iload 4, 2) := by decide +kernel
theorem d_X11_areRight_56 : decode cX11_areRight 56 = .ok (.aaload, 1) := by decide +kernel
theorem d_X11_areRight_57 : decode cX11_areRight 57 = .ok (.iconst 1, 1) := by decide +kernel
theorem d_X11_areRight_58 : decode cX11_areRight 58 = .ok (.iaload, 1) := by decide +kernel
theorem d_X11_areRight_59 : decode cX11_areRight 59 = .ok (.istore 5, 2) := by decide +kernel
theorem d_X11_areRight_61 : decode cX11_areRight 61 = .ok (.iload_n 3, 1) := by decide +kernel
theorem d_X11_areRight_62 : decode cX11_areRight 62 = .ok (.aload_n 0, 1) := by decide +kernel
theorem d_X11_areRight_63 : decode cX11_areRight 63 = .ok (.getfield 58, 3) := by decide +kernel
theorem d_X11_areRight_66 : decode cX11_areRight 66 = .ok (.iload_n 2, 1) := by decide +kernel
theorem d_X11_areRight_67 : decode cX11_areRight 67 = .ok (.aaload, 1) := by decide +kernel
theorem d_X11_areRight_68 : decode cX11_areRight 68 = .ok (.iconst 0, 1) := by decide +kernel
theorem d_X11_areRight_69 : decode cX11_areRight 69 = .ok (.iaload, 1) := by decide +kernel
theorem d_X11_areRight_70 : decode cX11_areRight 70 = .ok (.aload_n 0, 1) := by decide +kernel
theorem d_X11_areRight_71 : decode cX11_areRight 71 = .ok (.getfield 37, 3) := by decide +kernel
theorem d_X11_areRight_74 : decode cX11_areRight 74 = .ok (.iload 4, 2) := by decide +kernel
theorem d_X11_areRight_76 : decode cX11_areRight 76 = .ok (.aaload, 1) := by decide +kernel
theorem d_X11_areRight_77 : decode cX11_areRight 77 = .ok (.iconst 0, 1) := by decide +kernel
theorem d_X11_areRight_78 : decode cX11_areRight 78 = .ok (.iaload, 1) := by decide +kernel
theorem d_X11_areRight_79 : decode cX11_areRight 79 = .ok (.ishr, 1) := by decide +kernel
theorem d_X11_areRight_80 : decode cX11_areRight 80 = .ok (.iconst 1, 1) := by decide +kernel
theorem d_X11_areRight_81 : decode cX11_areRight 81 = .ok (.iand, 1) := by decide +kernel
theorem d_X11_areRight_82 : decode cX11_areRight 82 = .ok (.iconst 1, 1) := by decide +kernel
theorem d_X11_areRight_83 : decode cX11_areRight 83 = .ok (.if_icmp .ne 8, 3) := by decide +kernel
theorem d_X11_areRight_86 : decode cX11_areRight 86 = .ok (.iload 5, 2) := by decide +kernel
theorem d_X11_areRight_88 : decode cX11_areRight 88 = .ok (.goto 34, 3) := by decide +kernel
theorem d_X11_areRight_91 : decode cX11_areRight 91 = .ok (.aload_n 0, 1) := by decide +kernel
theorem d_X11_areRight_92 : decode cX11_areRight 92 = .ok (.getfield 58, 3) := by decide +kernel
theorem d_X11_areRight_95 : decode cX11_areRight 95 = .ok (.iload_n 2, 1) := by decide +kernel
theorem d_X11_areRight_96 : decode cX11_areRight 96 = .ok (.aaload, 1) := by decide +kernel
theorem d_X11_areRight_97 : decode cX11_areRight 97 = .ok (.iconst 1, 1) := by decide +kernel
theorem d_X11_areRight_98 : decode cX11_areRight 98 = .ok (.iaload, 1) := by decide +kernel
theorem d_X11_areRight_99 : decode cX11_areRight 99 = .ok (.aload_n 0, 1) := by decide +kernel
theorem d_X11_areRight_100 : decode cX11_areRight 100 = .ok (.getfield 37, 3) := by decide +kernel
theorem d_X11_areRight_103 : decode cX11_areRight 103 = .ok (.iload 4, 2) := by decide +kernel
theorem d_X11_areRight_105 : decode cX11_areRight 105 = .ok (.aaload, 1) := by decide +kernel
theorem d_X11_areRight_106 : decode cX11_areRight 106 = .ok (.iconst 0, 1) := by decide +kernel
theorem d_X11_areRight_107 : decode cX11_areRight 107 = .ok (.iaload, 1) := by decide +kernel
theorem d_X11_areRight_108 : decode cX11_areRight 108 = .ok (.ishr, 1) := by decide +kernel
theorem d_X11_areRight_109 : decode cX11_areRight 109 = .ok (.iconst 1, 1) := by decide +kernel
theorem d_X11_areRight_110 : decode cX11_areRight 110 = .ok (.iand, 1) := by decide +kernel
theorem d_X11_areRight_111 : decode cX11_areRight 111 = .ok (.iconst 1, 1) := by decide +kernel
theorem d_X11_areRight_112 : decode cX11_areRight 112 = .ok (.if_icmp .ne 9, 3) := by decide +kernel
theorem d_X11_areRight_115 : decode cX11_areRight 115 = .ok (.iload 5, 2) := by decide +kernel
theorem d_X11_areRight_117 : decode cX11_areRight 117 = .ok (.ineg, 1) := by decide +kernel
theorem d_X11_areRight_118 : decode cX11_areRight 118 = .ok (.goto 4, 3) := by decide +kernel
theorem d_X11_areRight_121 : decode cX11_areRight 121 = .ok (.iconst 0, 1) := by decide +kernel
theorem d_X11_areRight_122 : decode cX11_areRight 122 = .ok (.iadd, 1) := by decide +kernel
theorem d_X11_areRight_123 : decode cX11_areRight 123 = .ok (.istore_n 3, 1) := by decide +kernel
theorem d_X11_areRight_124 : decode cX11_areRight 124 = .ok (.iinc 4 1, 3) := by decide +kernel
theorem d_X11_areRight_127 : decode cX11_areRight 127 = .ok (.goto (-112), 3) := by decide +kernel
theorem d_X11_areRight_130 : decode cX11_areRight 130 = .ok (.iload_n 3, 1) := by decide +kernel
theorem d_X11_areRight_131 : decode cX11_areRight 131 = .ok (.aload_n 0, 1) := by decide +kernel
theorem d_X11_areRight_132 : decode cX11_areRight 132 = .ok (.getfield 58, 3) := by decide +kernel
theorem d_X11_areRight_135 : decode cX11_areRight 135 = .ok (.iload_n 2, 1) := by decide +kernel
theorem d_X11_areRight_136 : decode cX11_areRight 136 = .ok (.aaload, 1) := by decide +kernel
theorem d_X11_areRight_137 : decode cX11_areRight 137 = .ok (.iconst 2, 1) := by decide +kernel
theorem d_X11_areRight_138 : decode cX11_areRight 138 = .ok (.iaload, 1) := by decide +kernel
theorem d_X11_areRight_139 : decode cX11_areRight 139 = .ok (.if_icmp .eq 5, 3) := by decide +kernel
theorem d_X11_areRight_142 : decode cX11_areRight 142 = .ok (.iconst 0, 1) := by decide +kernel
theorem d_X11_areRight_143 : decode cX11_areRight 143 = .ok (.ireturn, 1) := by decide +kernel
theorem d_X11_areRight_144 : decode cX11_areRight 144 = .ok (.iinc 2 1, 3) := by decide +kernel
theorem d_X11_areRight_147 : decode cX11_areRight 147 = .ok (.goto (-145), 3) := by decide +kernel
theorem d_X11_areRight_150 : decode cX11_areRight 150 = .ok (.iconst 1, 1) := by decide +kernel
theorem d_X11_areRight_151 : decode cX11_areRight 151 = .ok (.ireturn, 1) := by decide +kernel
set_option maxRecDepth 100000 in
theorem L_X11_areRight {p : Program} {l : Launch} {e : Env} {s : State} {m : MethodId} {args : Array Value} {below : List Frame} {meth : Method} {c : Code} {D : va_G} {ca : Nat → ClassId} {ad sx sy : Nat → Nat} {A : Nat → Prop} {Q : QT} (C0 : CX p s m args meth c cX11_areRight 6 yX11_areRight.cls D ca ad A) (hE : EX sx sy A s s.heap) (hr : meth.sig.returnType = (some .boolean)) (hno : ∀ x ∈ c.exceptionTable.toList, False) : R_X11_areRight (JW p l e { frames := 10, cells := 0, slots := 6 * 0, locals := 200 } s m args below meth c 6 D ca ad A (vx_MQ below (Qn D ca ad A Q) (Qx D ca ad A Q) args s 0 (6 * 0) A) gz gz true) Q := ⟨s_ic C0 (d_X11_areRight_0) hgz (s_isn C0 (d_X11_areRight_1) hgz (fun _ _ _ h => h)) (okn rfl),
  s_iln C0 (d_X11_areRight_2) hgz (s_aln C0 (d_X11_areRight_3) hgz (s_gi C0 (j := 23) (c0 := 11) rfl gX11 (by decide) rfl (by decide) wg1224 (d_X11_areRight_4) hgz (s_cge C0 (d_X11_areRight_7) (by decide) hgz hgz (fun _ _ _ h => h) (s_ic C0 (d_X11_areRight_10) hgz (s_isn C0 (d_X11_areRight_11) hgz (s_ic C0 (d_X11_areRight_12) hgz (s_is C0 (d_X11_areRight_13) hgz (fun _ _ _ h => h)) (okn rfl))) (okn rfl))))),
  s_il C0 (d_X11_areRight_15) hgz (s_aln C0 (d_X11_areRight_17) hgz (s_gr C0 (j := 11) (c0 := 11) rfl gX11 (by decide) rfl rfl wg1212 (d_X11_areRight_18) hgz (s_ic C0 (d_X11_areRight_21) hgz (s_ia C0 (d_X11_areRight_22) hgz (s_cge C0 (d_X11_areRight_23) (by decide) hgz hgz (fun _ _ _ h => h) (s_iln C0 (d_X11_areRight_26) hgz (s_il C0 (d_X11_areRight_27) hgz (s_shr C0 (d_X11_areRight_29) hgz (s_ic C0 (d_X11_areRight_30) hgz (s_and C0 (d_X11_areRight_31) hgz (s_ic C0 (d_X11_areRight_32) hgz (s_cne C0 (d_X11_areRight_33) (by decide) hgz hgz (fun _ _ _ h => h) (s_aln C0 (d_X11_areRight_36) hgz (s_gr C0 (j := 15) (c0 := 11) rfl gX11 (by decide) rfl rfl wg1216 (d_X11_areRight_37) hgz (s_il C0 (d_X11_areRight_40) hgz (s_aa C0 (by decide) (by decide) rfl rfl (d_X11_areRight_42) hgz (s_ic C0 (d_X11_areRight_43) hgz (s_ia C0 (d_X11_areRight_44) hgz (s_ic C0 (d_X11_areRight_45) hgz (s_div C0 (d_X11_areRight_46) hgz (s_goto C0 (tgt := 59) (d_X11_areRight_47) (by decide) hgz (fun _ _ _ h => h))) (okn rfl))) (okn rfl))))))) (okn rfl))) (okn rfl))))))) (okn rfl)))),
  s_aln C0 (d_X11_areRight_50) hgz (s_gr C0 (j := 15) (c0 := 11) rfl gX11 (by decide) rfl rfl wg1216 (d_X11_areRight_51) hgz (s_il C0 (d_X11_areRight_54) hgz (s_aa C0 (by decide) (by decide) rfl rfl (d_X11_areRight_56) hgz (s_ic C0 (d_X11_areRight_57) hgz (s_ia C0 (d_X11_areRight_58) hgz (fun _ _ _ h => h)) (okn rfl))))),
  s_is C0 (d_X11_areRight_59) hgz (s_iln C0 (d_X11_areRight_61) hgz (s_aln C0 (d_X11_areRight_62) hgz (s_gr C0 (j := 26) (c0 := 11) rfl gX11 (by decide) rfl rfl wg1227 (d_X11_areRight_63) hgz (s_iln C0 (d_X11_areRight_66) hgz (s_aa C0 (by decide) (by decide) rfl rfl (d_X11_areRight_67) hgz (s_ic C0 (d_X11_areRight_68) hgz (s_ia C0 (d_X11_areRight_69) hgz (s_aln C0 (d_X11_areRight_70) hgz (s_gr C0 (j := 15) (c0 := 11) rfl gX11 (by decide) rfl rfl wg1216 (d_X11_areRight_71) hgz (s_il C0 (d_X11_areRight_74) hgz (s_aa C0 (by decide) (by decide) rfl rfl (d_X11_areRight_76) hgz (s_ic C0 (d_X11_areRight_77) hgz (s_ia C0 (d_X11_areRight_78) hgz (s_shr C0 (d_X11_areRight_79) hgz (s_ic C0 (d_X11_areRight_80) hgz (s_and C0 (d_X11_areRight_81) hgz (s_ic C0 (d_X11_areRight_82) hgz (s_cne C0 (d_X11_areRight_83) (by decide) hgz hgz (fun _ _ _ h => h) (s_il C0 (d_X11_areRight_86) hgz (s_goto C0 (tgt := 122) (d_X11_areRight_88) (by decide) hgz (fun _ _ _ h => h)))) (okn rfl))) (okn rfl)))) (okn rfl))))))) (okn rfl))))))),
  s_aln C0 (d_X11_areRight_91) hgz (s_gr C0 (j := 26) (c0 := 11) rfl gX11 (by decide) rfl rfl wg1227 (d_X11_areRight_92) hgz (s_iln C0 (d_X11_areRight_95) hgz (s_aa C0 (by decide) (by decide) rfl rfl (d_X11_areRight_96) hgz (s_ic C0 (d_X11_areRight_97) hgz (s_ia C0 (d_X11_areRight_98) hgz (s_aln C0 (d_X11_areRight_99) hgz (s_gr C0 (j := 15) (c0 := 11) rfl gX11 (by decide) rfl rfl wg1216 (d_X11_areRight_100) hgz (s_il C0 (d_X11_areRight_103) hgz (s_aa C0 (by decide) (by decide) rfl rfl (d_X11_areRight_105) hgz (s_ic C0 (d_X11_areRight_106) hgz (s_ia C0 (d_X11_areRight_107) hgz (s_shr C0 (d_X11_areRight_108) hgz (s_ic C0 (d_X11_areRight_109) hgz (s_and C0 (d_X11_areRight_110) hgz (s_ic C0 (d_X11_areRight_111) hgz (s_cne C0 (d_X11_areRight_112) (by decide) hgz hgz (fun _ _ _ h => h) (s_il C0 (d_X11_areRight_115) hgz (s_neg C0 (d_X11_areRight_117) hgz (s_goto C0 (tgt := 122) (d_X11_areRight_118) (by decide) hgz (fun _ _ _ h => h))))) (okn rfl))) (okn rfl)))) (okn rfl))))))) (okn rfl))))),
  s_ic C0 (d_X11_areRight_121) hgz (fun _ _ _ h => h) (okn rfl),
  s_add C0 (d_X11_areRight_122) hgz (s_isn C0 (d_X11_areRight_123) hgz (s_inc C0 (d_X11_areRight_124) hgz (s_goto C0 (tgt := 15) (d_X11_areRight_127) (by decide) hgz (fun _ _ _ h => h)))),
  s_iln C0 (d_X11_areRight_130) hgz (s_aln C0 (d_X11_areRight_131) hgz (s_gr C0 (j := 26) (c0 := 11) rfl gX11 (by decide) rfl rfl wg1227 (d_X11_areRight_132) hgz (s_iln C0 (d_X11_areRight_135) hgz (s_aa C0 (by decide) (by decide) rfl rfl (d_X11_areRight_136) hgz (s_ic C0 (d_X11_areRight_137) hgz (s_ia C0 (d_X11_areRight_138) hgz (s_ceq C0 (d_X11_areRight_139) (by decide) hgz hgz (fun _ _ _ h => h) (s_ic C0 (d_X11_areRight_142) hgz (s_rz C0 hr (d_X11_areRight_143) ⟨by decide, by decide⟩) (okn rfl)))) (okn rfl)))))),
  s_inc C0 (d_X11_areRight_144) hgz (s_goto C0 (tgt := 2) (d_X11_areRight_147) (by decide) hgz (fun _ _ _ h => h)),
  s_ic C0 (d_X11_areRight_150) hgz (s_rz C0 hr (d_X11_areRight_151) ⟨by decide, by decide⟩) (okn rfl)⟩
theorem c_X11_areRight (l : Launch) : Ctr l yX11_areRight cX11_areRight 6 (some .boolean) 10 200 0 (fun sx => (nf G_X11_areRight)) := ctr_of (by decide) gz gz ⟨rfl, rfl⟩ (fun p e s m args below meth c D ca ad sx sy A Q as M C0 hE hr hno hF => P_X11_areRight (L_X11_areRight C0 hE hr hno) hF)
theorem wg1210 : Cond.fieldLink "WeighedHallModel" 17 "WeighedHallModel" "refused" "[I" ∈ GT := gt_mem 1330 (by decide +kernel) rfl
theorem wg1201 : Cond.fieldLink "WeighedHallModel" 106 "WeighedHallModel" "thrown" "I" ∈ GT := gt_mem 1321 (by decide +kernel) rfl
theorem d_X11_bad_0 : decode cX11_bad 0 = .ok (.iload_n 1, 1) := by decide +kernel
theorem d_X11_bad_1 : decode cX11_bad 1 = .ok (.ifCond .eq 25, 3) := by decide +kernel
theorem d_X11_bad_4 : decode cX11_bad 4 = .ok (.aload_n 0, 1) := by decide +kernel
theorem d_X11_bad_5 : decode cX11_bad 5 = .ok (.getfield 106, 3) := by decide +kernel
theorem d_X11_bad_8 : decode cX11_bad 8 = .ok (.ifCond .ne 18, 3) := by decide +kernel
theorem d_X11_bad_11 : decode cX11_bad 11 = .ok (.aload_n 0, 1) := by decide +kernel
theorem d_X11_bad_12 : decode cX11_bad 12 = .ok (.iload_n 2, 1) := by decide +kernel
theorem d_X11_bad_13 : decode cX11_bad 13 = .ok (.putfield 106, 3) := by decide +kernel
theorem d_X11_bad_16 : decode cX11_bad 16 = .ok (.aload_n 0, 1) := by decide +kernel
theorem d_X11_bad_17 : decode cX11_bad 17 = .ok (.getfield 17, 3) := by decide +kernel
theorem d_X11_bad_20 : decode cX11_bad 20 = .ok (.iload_n 3, 1) := by decide +kernel
theorem d_X11_bad_21 : decode cX11_bad 21 = .ok (.dup2, 1) := by decide +kernel
theorem d_X11_bad_22 : decode cX11_bad 22 = .ok (.iaload, 1) := by decide +kernel
theorem d_X11_bad_23 : decode cX11_bad 23 = .ok (.iconst 1, 1) := by decide +kernel
theorem d_X11_bad_24 : decode cX11_bad 24 = .ok (.iadd, 1) := by decide +kernel
theorem d_X11_bad_25 : decode cX11_bad 25 = .ok (.iastore, 1) := by decide +kernel
theorem d_X11_bad_26 : decode cX11_bad 26 = .ok (.aload_n 0, 1) := by decide +kernel
theorem d_X11_bad_27 : decode cX11_bad 27 = .ok (.getfield 106, 3) := by decide +kernel
theorem d_X11_bad_30 : decode cX11_bad 30 = .ok (.ifCond .eq 7, 3) := by decide +kernel
theorem d_X11_bad_33 : decode cX11_bad 33 = .ok (.iconst 1, 1) := by decide +kernel
theorem d_X11_bad_34 : decode cX11_bad 34 = .ok (.goto 4, 3) := by decide +kernel
theorem d_X11_bad_37 : decode cX11_bad 37 = .ok (.iconst 0, 1) := by decide +kernel
theorem d_X11_bad_38 : decode cX11_bad 38 = .ok (.ireturn, 1) := by decide +kernel
set_option maxRecDepth 100000 in
theorem L_X11_bad {p : Program} {l : Launch} {e : Env} {s : State} {m : MethodId} {args : Array Value} {below : List Frame} {meth : Method} {c : Code} {D : va_G} {ca : Nat → ClassId} {ad sx sy : Nat → Nat} {A : Nat → Prop} {Q : QT} (C0 : CX p s m args meth c cX11_bad 4 yX11_bad.cls D ca ad A) (hE : EX sx sy A s s.heap) (hr : meth.sig.returnType = (some .boolean)) (hno : ∀ x ∈ c.exceptionTable.toList, False) : R_X11_bad (JW p l e { frames := 10, cells := 0, slots := 6 * 0, locals := 200 } s m args below meth c 4 D ca ad A (vx_MQ below (Qn D ca ad A Q) (Qx D ca ad A Q) args s 0 (6 * 0) A) gz gz true) Q := ⟨s_iln C0 (d_X11_bad_0) hgz (s_zeq C0 (d_X11_bad_1) (by decide) hgz hgz (fun _ _ _ h => h) (s_aln C0 (d_X11_bad_4) hgz (s_gi C0 (j := 0) (c0 := 11) rfl gX11 (by decide) rfl (by decide) wg1201 (d_X11_bad_5) hgz (s_zne C0 (d_X11_bad_8) (by decide) hgz hgz (fun _ _ _ h => h) (s_aln C0 (d_X11_bad_11) hgz (s_iln C0 (d_X11_bad_12) hgz (s_pi C0 (j := 0) (c0 := 11) rfl gX11 tyX11_ok nmX11 (by decide) rfl (by decide) rfl rfl wg1201 (d_X11_bad_13) hgz (s_aln C0 (d_X11_bad_16) hgz (s_gr C0 (j := 9) (c0 := 11) rfl gX11 (by decide) rfl rfl wg1210 (d_X11_bad_17) hgz (s_iln C0 (d_X11_bad_20) hgz (s_dup2 C0 (d_X11_bad_21) hgz (s_ia C0 (d_X11_bad_22) hgz (s_ic C0 (d_X11_bad_23) hgz (s_add C0 (d_X11_bad_24) hgz (s_iax C0 (d_X11_bad_25) hgz (fun _ _ _ h => h))) (okn rfl)))))))))))))),
  s_aln C0 (d_X11_bad_26) hgz (s_gi C0 (j := 0) (c0 := 11) rfl gX11 (by decide) rfl (by decide) wg1201 (d_X11_bad_27) hgz (s_zeq C0 (d_X11_bad_30) (by decide) hgz hgz (fun _ _ _ h => h) (s_ic C0 (d_X11_bad_33) hgz (s_goto C0 (tgt := 38) (d_X11_bad_34) (by decide) hgz (fun _ _ _ h => h)) (okn rfl)))),
  s_ic C0 (d_X11_bad_37) hgz (fun _ _ _ h => h) (okn rfl),
  s_rz C0 hr (d_X11_bad_38) ⟨by decide, by decide⟩⟩
theorem c_X11_bad (l : Launch) : Ctr l yX11_bad cX11_bad 4 (some .boolean) 10 200 0 (fun sx => (nf G_X11_bad)) := ctr_of (by decide) gz gz ⟨rfl, rfl⟩ (fun p e s m args below meth c D ca ad sx sy A Q as M C0 hE hr hno hF => P_X11_bad (L_X11_bad C0 hE hr hno) hF)
theorem d_X11_rounded_0 : decode cX11_rounded 0 = .ok (.iload_n 0, 1) := by decide +kernel
theorem d_X11_rounded_1 : decode cX11_rounded 1 = .ok (.iload_n 1, 1) := by decide +kernel
theorem d_X11_rounded_2 : decode cX11_rounded 2 = .ok (.iadd, 1) := by decide +kernel
theorem d_X11_rounded_3 : decode cX11_rounded 3 = .ok (.iconst 1, 1) := by decide +kernel
theorem d_X11_rounded_4 : decode cX11_rounded 4 = .ok (.isub, 1) := by decide +kernel
theorem d_X11_rounded_5 : decode cX11_rounded 5 = .ok (.iload_n 1, 1) := by decide +kernel
theorem d_X11_rounded_6 : decode cX11_rounded 6 = .ok (.idiv, 1) := by decide +kernel
theorem d_X11_rounded_7 : decode cX11_rounded 7 = .ok (.ireturn, 1) := by decide +kernel
set_option maxRecDepth 100000 in
theorem L_X11_rounded {p : Program} {l : Launch} {e : Env} {s : State} {m : MethodId} {args : Array Value} {below : List Frame} {meth : Method} {c : Code} {D : va_G} {ca : Nat → ClassId} {ad sx sy : Nat → Nat} {A : Nat → Prop} {Q : QT} (C0 : CX p s m args meth c cX11_rounded 2 yX11_rounded.cls D ca ad A) (hE : EX sx sy A s s.heap) (hr : meth.sig.returnType = (some .int)) (hno : ∀ x ∈ c.exceptionTable.toList, False) : R_X11_rounded (JW p l e { frames := 10, cells := 0, slots := 6 * 0, locals := 200 } s m args below meth c 2 D ca ad A (vx_MQ below (Qn D ca ad A Q) (Qx D ca ad A Q) args s 0 (6 * 0) A) gz gz true) Q := s_iln C0 (d_X11_rounded_0) hgz (s_iln C0 (d_X11_rounded_1) hgz (s_add C0 (d_X11_rounded_2) hgz (s_ic C0 (d_X11_rounded_3) hgz (s_sub C0 (d_X11_rounded_4) hgz (s_iln C0 (d_X11_rounded_5) hgz (s_div C0 (d_X11_rounded_6) hgz (s_ri C0 hr (d_X11_rounded_7) ⟨by decide, by decide⟩)))) (okn rfl))))
theorem c_X11_rounded (l : Launch) : Ctr l yX11_rounded cX11_rounded 2 (some .int) 10 200 0 (fun sx => (nf G_X11_rounded)) := ctr_of (by decide) gz gz ⟨rfl, rfl⟩ (fun p e s m args below meth c D ca ad sx sy A Q as M C0 hE hr hno hF => P_X11_rounded (L_X11_rounded C0 hE hr hno) hF)
theorem wg1236 : Cond.fieldLink "WeighedHallModel" 87 "WeighedHallModel" "without" "I" ∈ GT := gt_mem 1356 (by decide +kernel) rfl
theorem wg1231 : Cond.fieldLink "WeighedHallModel" 70 "WeighedHallModel" "through" "[I" ∈ GT := gt_mem 1351 (by decide +kernel) rfl
theorem wg1465 : Cond.code ⟨"WeighedHallModel", "rounded", "(II)I"⟩ prog_13_method_32_code 2 (Option.some .int) ∈ GT := gt_mem 1585 (by decide +kernel) rfl
theorem wg12 : Cond.initialized "WeighedHallModel" ∈ GT := gt_mem 132 (by decide +kernel) rfl
theorem wg1463 : Cond.methodLink "WeighedHallModel" 226 ⟨"WeighedHallModel", "rounded", "(II)I"⟩ ∈ GT := gt_mem 1583 (by decide +kernel) rfl
theorem wg1464 : Cond.static ⟨"WeighedHallModel", "rounded", "(II)I"⟩ ∈ GT := gt_mem 1584 (by decide +kernel) rfl
theorem wg1222 : Cond.fieldLink "WeighedHallModel" 55 "WeighedHallModel" "door" "[I" ∈ GT := gt_mem 1342 (by decide +kernel) rfl
theorem d_X11_laysDoors_0 : decode cX11_laysDoors 0 = .ok (.iconst 0, 1) := by decide +kernel
theorem d_X11_laysDoors_1 : decode cX11_laysDoors 1 = .ok (.istore_n 1, 1) := by decide +kernel
theorem d_X11_laysDoors_2 : decode cX11_laysDoors 2 = .ok (.iload_n 1, 1) := by decide +kernel
theorem d_X11_laysDoors_3 : decode cX11_laysDoors 3 = .ok (.aload_n 0, 1) := by decide +kernel
theorem d_X11_laysDoors_4 : decode cX11_laysDoors 4 = .ok (.getfield 23, 3) := by decide +kernel
theorem d_X11_laysDoors_7 : decode cX11_laysDoors 7 = .ok (.iconst 1, 1) := by decide +kernel
theorem d_X11_laysDoors_8 : decode cX11_laysDoors 8 = .ok (.iaload, 1) := by decide +kernel
theorem d_X11_laysDoors_9 : decode cX11_laysDoors 9 = .ok (.if_icmp .ge 143, 3) := by decide +kernel
theorem d_X11_laysDoors_12 : decode cX11_laysDoors 12 = .ok (.iconst 0, 1) := by decide +kernel
theorem d_X11_laysDoors_13 : decode cX11_laysDoors 13 = .ok (.istore_n 2, 1) := by decide +kernel
theorem d_X11_laysDoors_14 : decode cX11_laysDoors 14 = .ok (.aload_n 0, 1) := by decide +kernel
theorem d_X11_laysDoors_15 : decode cX11_laysDoors 15 = .ok (.getfield 70, 3) := by decide +kernel
theorem d_X11_laysDoors_18 : decode cX11_laysDoors 18 = .ok (.iload_n 1, 1) := by decide +kernel
theorem d_X11_laysDoors_19 : decode cX11_laysDoors 19 = .ok (.iconst 0, 1) := by decide +kernel
theorem d_X11_laysDoors_20 : decode cX11_laysDoors 20 = .ok (.iastore, 1) := by decide +kernel
theorem d_X11_laysDoors_21 : decode cX11_laysDoors 21 = .ok (.aload_n 0, 1) := by decide +kernel
theorem d_X11_laysDoors_22 : decode cX11_laysDoors 22 = .ok (.getfield 37, 3) := by decide +kernel
theorem d_X11_laysDoors_25 : decode cX11_laysDoors 25 = .ok (.iload_n 1, 1) := by decide +kernel
theorem d_X11_laysDoors_26 : decode cX11_laysDoors 26 = .ok (.aaload, 1) := by decide +kernel
theorem d_X11_laysDoors_27 : decode cX11_laysDoors 27 = .ok (.iconst 2, 1) := by decide +kernel
theorem d_X11_laysDoors_28 : decode cX11_laysDoors 28 = .ok (.iaload, 1) := by decide +kernel
theorem d_X11_laysDoors_29 : decode cX11_laysDoors 29 = .ok (.iconst (-1), 1) := by decide +kernel
theorem d_X11_laysDoors_30 : decode cX11_laysDoors 30 = .ok (.if_icmp .eq 116, 3) := by decide +kernel
theorem d_X11_laysDoors_33 : decode cX11_laysDoors 33 = .ok (.iload_n 1, 1) := by decide +kernel
theorem d_X11_laysDoors_34 : decode cX11_laysDoors 34 = .ok (.aload_n 0, 1) := by decide +kernel
theorem d_X11_laysDoors_35 : decode cX11_laysDoors 35 = .ok (.getfield 87, 3) := by decide +kernel
theorem d_X11_laysDoors_38 : decode cX11_laysDoors 38 = .ok (.if_icmp .ne 6, 3) := by decide +kernel
theorem d_X11_laysDoors_41 : decode cX11_laysDoors 41 = .ok (.goto 105, 3) := by decide +kernel
theorem d_X11_laysDoors_44 : decode cX11_laysDoors 44 = .ok (.iconst 0, 1) := by decide +kernel
theorem d_X11_laysDoors_45 : decode cX11_laysDoors 45 = .ok (.istore_n 3, 1) := by decide +kernel
theorem d_X11_laysDoors_46 : decode cX11_laysDoors 46 = .ok (.iload_n 3, 1) := by decide +kernel
theorem d_X11_laysDoors_47 : decode cX11_laysDoors 47 = .ok (.iload_n 1, 1) := by decide +kernel
theorem d_X11_laysDoors_48 : decode cX11_laysDoors 48 = .ok (.if_icmp .ge 43, 3) := by decide +kernel
theorem d_X11_laysDoors_51 : decode cX11_laysDoors 51 = .ok (.aload_n 0, 1) := by decide +kernel
theorem d_X11_laysDoors_52 : decode cX11_laysDoors 52 = .ok (.getfield 37, 3) := by decide +kernel
theorem d_X11_laysDoors_55 : decode cX11_laysDoors 55 = .ok (.iload_n 3, 1) := by decide +kernel
theorem d_X11_laysDoors_56 : decode cX11_laysDoors 56 = .ok (.aaload, 1) := by decide +kernel
theorem d_X11_laysDoors_57 : decode cX11_laysDoors 57 = .ok (.iconst 2, 1) := by decide +kernel
theorem d_X11_laysDoors_58 : decode cX11_laysDoors 58 = .ok (.iaload, 1) := by decide +kernel
theorem d_X11_laysDoors_59 : decode cX11_laysDoors 59 = .ok (.aload_n 0, 1) := by decide +kernel
theorem d_X11_laysDoors_60 : decode cX11_laysDoors 60 = .ok (.getfield 37, 3) := by decide +kernel
theorem d_X11_laysDoors_63 : decode cX11_laysDoors 63 = .ok (.iload_n 1, 1) := by decide +kernel
theorem d_X11_laysDoors_64 : decode cX11_laysDoors 64 = .ok (.aaload, 1) := by decide +kernel
theorem d_X11_laysDoors_65 : decode cX11_laysDoors 65 = .ok (.iconst 2, 1) := by decide +kernel
theorem d_X11_laysDoors_66 : decode cX11_laysDoors 66 = .ok (.iaload, 1) := by decide +kernel
theorem d_X11_laysDoors_67 : decode cX11_laysDoors 67 = .ok (.if_icmp .ne 18, 3) := by decide +kernel
theorem d_X11_laysDoors_70 : decode cX11_laysDoors 70 = .ok (.iload_n 3, 1) := by decide +kernel
theorem d_X11_laysDoors_71 : decode cX11_laysDoors 71 = .ok (.aload_n 0, 1) := by decide +kernel
theorem d_X11_laysDoors_72 : decode cX11_laysDoors 72 = .ok (.getfield 87, 3) := by decide +kernel
theorem d_X11_laysDoors_75 : decode cX11_laysDoors 75 = .ok (.if_icmp .eq 10, 3) := by decide +kernel
theorem d_X11_laysDoors_78 : decode cX11_laysDoors 78 = .ok (.aload_n 0, 1) := by decide +kernel
theorem d_X11_laysDoors_79 : decode cX11_laysDoors 79 = .ok (.getfield 70, 3) := by decide +kernel
theorem d_X11_laysDoors_82 : decode cX11_laysDoors 82 = .ok (.iload_n 3, 1) := by decide +kernel
theorem d_X11_laysDoors_83 : decode cX11_laysDoors 83 = .ok (.iaload, 1) := by decide +kernel
theorem d_X11_laysDoors_84 : decode cX11_laysDoors 84 = .ok (.istore_n 2, 1) := by decide +kernel
theorem d_X11_laysDoors_85 : decode cX11_laysDoors 85 = .ok (.iinc 3 1, 3) := by decide +kernel
theorem d_X11_laysDoors_88 : decode cX11_laysDoors 88 = .ok (.goto (-42), 3) := by decide +kernel
theorem d_X11_laysDoors_91 : decode cX11_laysDoors 91 = .ok (.aload_n 0, 1) := by decide +kernel
theorem d_X11_laysDoors_92 : decode cX11_laysDoors 92 = .ok (.getfield 70, 3) := by decide +kernel
theorem d_X11_laysDoors_95 : decode cX11_laysDoors 95 = .ok (.iload_n 1, 1) := by decide +kernel
theorem d_X11_laysDoors_96 : decode cX11_laysDoors 96 = .ok (.iload_n 2, 1) := by decide +kernel
theorem d_X11_laysDoors_97 : decode cX11_laysDoors 97 = .ok (.aload_n 0, 1) := by decide +kernel
theorem d_X11_laysDoors_98 : decode cX11_laysDoors 98 = .ok (.getfield 37, 3) := by decide +kernel
theorem d_X11_laysDoors_101 : decode cX11_laysDoors 101 = .ok (.iload_n 1, 1) := by decide +kernel
theorem d_X11_laysDoors_102 : decode cX11_laysDoors 102 = .ok (.aaload, 1) := by decide +kernel
theorem d_X11_laysDoors_103 : decode cX11_laysDoors 103 = .ok (.iconst 3, 1) := by decide +kernel
theorem d_X11_laysDoors_104 : decode cX11_laysDoors 104 = .ok (.iaload, 1) := by decide +kernel
theorem d_X11_laysDoors_105 : decode cX11_laysDoors 105 = .ok (.if_icmp .le 7, 3) := by decide +kernel
theorem d_X11_laysDoors_108 : decode cX11_laysDoors 108 = .ok (.iload_n 2, 1) := by decide +kernel
theorem d_X11_laysDoors_109 : decode cX11_laysDoors 109 = .ok (.goto 11, 3) := by decide +kernel
theorem d_X11_laysDoors_112 : decode cX11_laysDoors 112 = .ok (.aload_n 0, 1) := by decide +kernel
theorem d_X11_laysDoors_113 : decode cX11_laysDoors 113 = .ok (.getfield 37, 3) := by decide +kernel
theorem d_X11_laysDoors_116 : decode cX11_laysDoors 116 = .ok (.iload_n 1, 1) := by decide +kernel
theorem d_X11_laysDoors_117 : decode cX11_laysDoors 117 = .ok (.aaload, 1) := by decide +kernel
theorem d_X11_laysDoors_118 : decode cX11_laysDoors 118 = .ok (.iconst 3, 1) := by decide +kernel
theorem d_X11_laysDoors_119 : decode cX11_laysDoors 119 = .ok (.iaload, 1) := by decide +kernel
theorem d_X11_laysDoors_120 : decode cX11_laysDoors 120 = .ok (.aload_n 0, 1) := by decide +kernel
theorem d_X11_laysDoors_121 : decode cX11_laysDoors 121 = .ok (.getfield 37, 3) := by decide +kernel
theorem d_X11_laysDoors_124 : decode cX11_laysDoors 124 = .ok (.iload_n 1, 1) := by decide +kernel
theorem d_X11_laysDoors_125 : decode cX11_laysDoors 125 = .ok (.aaload, 1) := by decide +kernel
theorem d_X11_laysDoors_126 : decode cX11_laysDoors 126 = .ok (.iconst 1, 1) := by decide +kernel
theorem d_X11_laysDoors_127 : decode cX11_laysDoors 127 = .ok (.iaload, 1) := by decide +kernel
theorem d_X11_laysDoors_128 : decode cX11_laysDoors 128 = .ok (.aload_n 0, 1) := by decide +kernel
theorem d_X11_laysDoors_129 : decode cX11_laysDoors 129 = .ok (.getfield 55, 3) := by decide +kernel
theorem d_X11_laysDoors_132 : decode cX11_laysDoors 132 = .ok (.aload_n 0, 1) := by decide +kernel
theorem d_X11_laysDoors_133 : decode cX11_laysDoors 133 = .ok (.getfield 37, 3) := by decide +kernel
theorem d_X11_laysDoors_136 : decode cX11_laysDoors 136 = .ok (.iload_n 1, 1) := by decide +kernel
theorem d_X11_laysDoors_137 : decode cX11_laysDoors 137 = .ok (.aaload, 1) := by decide +kernel
theorem d_X11_laysDoors_138 : decode cX11_laysDoors 138 = .ok (.iconst 2, 1) := by decide +kernel
theorem d_X11_laysDoors_139 : decode cX11_laysDoors 139 = .ok (.iaload, 1) := by decide +kernel
theorem d_X11_laysDoors_140 : decode cX11_laysDoors 140 = .ok (.iaload, 1) := by decide +kernel
theorem d_X11_laysDoors_141 : decode cX11_laysDoors 141 = .ok (.invokestatic 226, 3) := by decide +kernel
theorem d_X11_laysDoors_144 : decode cX11_laysDoors 144 = .ok (.iadd, 1) := by decide +kernel
theorem d_X11_laysDoors_145 : decode cX11_laysDoors 145 = .ok (.iastore, 1) := by decide +kernel
theorem d_X11_laysDoors_146 : decode cX11_laysDoors 146 = .ok (.iinc 1 1, 3) := by decide +kernel
theorem d_X11_laysDoors_149 : decode cX11_laysDoors 149 = .ok (.goto (-147), 3) := by decide +kernel
theorem d_X11_laysDoors_152 : decode cX11_laysDoors 152 = .ok (.return_, 1) := by decide +kernel
set_option maxRecDepth 100000 in
theorem L_X11_laysDoors {p : Program} {l : Launch} {e : Env} {s : State} {m : MethodId} {args : Array Value} {below : List Frame} {meth : Method} {c : Code} {D : va_G} {ca : Nat → ClassId} {ad sx sy : Nat → Nat} {A : Nat → Prop} {Q : QT} (C0 : CX p s m args meth c cX11_laysDoors 4 yX11_laysDoors.cls D ca ad A) (hE : EX sx sy A s s.heap) (hr : meth.sig.returnType = none) (hno : ∀ x ∈ c.exceptionTable.toList, False) : R_X11_laysDoors (JW p l e { frames := 11, cells := 0, slots := 6 * 0, locals := 221 } s m args below meth c 4 D ca ad A (vx_MQ below (Qn D ca ad A Q) (Qx D ca ad A Q) args s 0 (6 * 0) A) gz gz true) Q := ⟨s_ic C0 (d_X11_laysDoors_0) hgz (s_isn C0 (d_X11_laysDoors_1) hgz (fun _ _ _ h => h)) (okn rfl),
  s_iln C0 (d_X11_laysDoors_2) hgz (s_aln C0 (d_X11_laysDoors_3) hgz (s_gr C0 (j := 11) (c0 := 11) rfl gX11 (by decide) rfl rfl wg1212 (d_X11_laysDoors_4) hgz (s_ic C0 (d_X11_laysDoors_7) hgz (s_ia C0 (d_X11_laysDoors_8) hgz (s_cge C0 (d_X11_laysDoors_9) (by decide) hgz hgz (fun _ _ _ h => h) (s_ic C0 (d_X11_laysDoors_12) hgz (s_isn C0 (d_X11_laysDoors_13) hgz (s_aln C0 (d_X11_laysDoors_14) hgz (s_gr C0 (j := 30) (c0 := 11) rfl gX11 (by decide) rfl rfl wg1231 (d_X11_laysDoors_15) hgz (s_iln C0 (d_X11_laysDoors_18) hgz (s_ic C0 (d_X11_laysDoors_19) hgz (s_iax C0 (d_X11_laysDoors_20) hgz (s_aln C0 (d_X11_laysDoors_21) hgz (s_gr C0 (j := 15) (c0 := 11) rfl gX11 (by decide) rfl rfl wg1216 (d_X11_laysDoors_22) hgz (s_iln C0 (d_X11_laysDoors_25) hgz (s_aa C0 (by decide) (by decide) rfl rfl (d_X11_laysDoors_26) hgz (s_ic C0 (d_X11_laysDoors_27) hgz (s_ia C0 (d_X11_laysDoors_28) hgz (s_ic C0 (d_X11_laysDoors_29) hgz (s_ceq C0 (d_X11_laysDoors_30) (by decide) hgz hgz (fun _ _ _ h => h) (s_iln C0 (d_X11_laysDoors_33) hgz (s_aln C0 (d_X11_laysDoors_34) hgz (s_gi C0 (j := 35) (c0 := 11) rfl gX11 (by decide) rfl (by decide) wg1236 (d_X11_laysDoors_35) hgz (s_cne C0 (d_X11_laysDoors_38) (by decide) hgz hgz (fun _ _ _ h => h) (s_goto C0 (tgt := 146) (d_X11_laysDoors_41) (by decide) hgz (fun _ _ _ h => h))))))) (okn rfl))) (okn rfl))))))) (okn rfl)))))) (okn rfl)))) (okn rfl)))),
  s_ic C0 (d_X11_laysDoors_44) hgz (s_isn C0 (d_X11_laysDoors_45) hgz (fun _ _ _ h => h)) (okn rfl),
  s_iln C0 (d_X11_laysDoors_46) hgz (s_iln C0 (d_X11_laysDoors_47) hgz (s_cge C0 (d_X11_laysDoors_48) (by decide) hgz hgz (fun _ _ _ h => h) (s_aln C0 (d_X11_laysDoors_51) hgz (s_gr C0 (j := 15) (c0 := 11) rfl gX11 (by decide) rfl rfl wg1216 (d_X11_laysDoors_52) hgz (s_iln C0 (d_X11_laysDoors_55) hgz (s_aa C0 (by decide) (by decide) rfl rfl (d_X11_laysDoors_56) hgz (s_ic C0 (d_X11_laysDoors_57) hgz (s_ia C0 (d_X11_laysDoors_58) hgz (s_aln C0 (d_X11_laysDoors_59) hgz (s_gr C0 (j := 15) (c0 := 11) rfl gX11 (by decide) rfl rfl wg1216 (d_X11_laysDoors_60) hgz (s_iln C0 (d_X11_laysDoors_63) hgz (s_aa C0 (by decide) (by decide) rfl rfl (d_X11_laysDoors_64) hgz (s_ic C0 (d_X11_laysDoors_65) hgz (s_ia C0 (d_X11_laysDoors_66) hgz (s_cne C0 (d_X11_laysDoors_67) (by decide) hgz hgz (fun _ _ _ h => h) (s_iln C0 (d_X11_laysDoors_70) hgz (s_aln C0 (d_X11_laysDoors_71) hgz (s_gi C0 (j := 35) (c0 := 11) rfl gX11 (by decide) rfl (by decide) wg1236 (d_X11_laysDoors_72) hgz (s_ceq C0 (d_X11_laysDoors_75) (by decide) hgz hgz (fun _ _ _ h => h) (s_aln C0 (d_X11_laysDoors_78) hgz (s_gr C0 (j := 30) (c0 := 11) rfl gX11 (by decide) rfl rfl wg1231 (d_X11_laysDoors_79) hgz (s_iln C0 (d_X11_laysDoors_82) hgz (s_ia C0 (d_X11_laysDoors_83) hgz (s_isn C0 (d_X11_laysDoors_84) hgz (fun _ _ _ h => h)))))))))))) (okn rfl))))))) (okn rfl)))))))),
  s_inc C0 (d_X11_laysDoors_85) hgz (s_goto C0 (tgt := 46) (d_X11_laysDoors_88) (by decide) hgz (fun _ _ _ h => h)),
  s_aln C0 (d_X11_laysDoors_91) hgz (s_gr C0 (j := 30) (c0 := 11) rfl gX11 (by decide) rfl rfl wg1231 (d_X11_laysDoors_92) hgz (s_iln C0 (d_X11_laysDoors_95) hgz (s_iln C0 (d_X11_laysDoors_96) hgz (s_aln C0 (d_X11_laysDoors_97) hgz (s_gr C0 (j := 15) (c0 := 11) rfl gX11 (by decide) rfl rfl wg1216 (d_X11_laysDoors_98) hgz (s_iln C0 (d_X11_laysDoors_101) hgz (s_aa C0 (by decide) (by decide) rfl rfl (d_X11_laysDoors_102) hgz (s_ic C0 (d_X11_laysDoors_103) hgz (s_ia C0 (d_X11_laysDoors_104) hgz (s_cle C0 (d_X11_laysDoors_105) (by decide) hgz hgz (fun _ _ _ h => h) (s_iln C0 (d_X11_laysDoors_108) hgz (s_goto C0 (tgt := 120) (d_X11_laysDoors_109) (by decide) hgz (fun _ _ _ h => h))))) (okn rfl))))))))),
  s_aln C0 (d_X11_laysDoors_112) hgz (s_gr C0 (j := 15) (c0 := 11) rfl gX11 (by decide) rfl rfl wg1216 (d_X11_laysDoors_113) hgz (s_iln C0 (d_X11_laysDoors_116) hgz (s_aa C0 (by decide) (by decide) rfl rfl (d_X11_laysDoors_117) hgz (s_ic C0 (d_X11_laysDoors_118) hgz (s_ia C0 (d_X11_laysDoors_119) hgz (fun _ _ _ h => h)) (okn rfl))))),
  s_aln C0 (d_X11_laysDoors_120) hgz (s_gr C0 (j := 15) (c0 := 11) rfl gX11 (by decide) rfl rfl wg1216 (d_X11_laysDoors_121) hgz (s_iln C0 (d_X11_laysDoors_124) hgz (s_aa C0 (by decide) (by decide) rfl rfl (d_X11_laysDoors_125) hgz (s_ic C0 (d_X11_laysDoors_126) hgz (s_ia C0 (d_X11_laysDoors_127) hgz (s_aln C0 (d_X11_laysDoors_128) hgz (s_gr C0 (j := 21) (c0 := 11) rfl gX11 (by decide) rfl rfl wg1222 (d_X11_laysDoors_129) hgz (s_aln C0 (d_X11_laysDoors_132) hgz (s_gr C0 (j := 15) (c0 := 11) rfl gX11 (by decide) rfl rfl wg1216 (d_X11_laysDoors_133) hgz (s_iln C0 (d_X11_laysDoors_136) hgz (s_aa C0 (by decide) (by decide) rfl rfl (d_X11_laysDoors_137) hgz (s_ic C0 (d_X11_laysDoors_138) hgz (s_ia C0 (d_X11_laysDoors_139) hgz (s_ia C0 (d_X11_laysDoors_140) hgz (s_callS C0 hE (c_X11_rounded l) wg1465 wg1463 wg1464 wg12 ⟨by decide, by decide⟩ (by decide +kernel) ⟨by decide, by decide⟩ ⟨by decide, by decide⟩ (d_X11_laysDoors_141) (fun x hx => (hno x hx).elim) ⟨by decide, by decide⟩ ⟨by decide, by decide⟩ (s_add C0 (d_X11_laysDoors_144) hgz (s_iax C0 (d_X11_laysDoors_145) hgz (fun _ _ _ h => h)))))) (okn rfl))))))))) (okn rfl))))),
  s_inc C0 (d_X11_laysDoors_146) hgz (s_goto C0 (tgt := 2) (d_X11_laysDoors_149) (by decide) hgz (fun _ _ _ h => h)),
  s_rv C0 hr (d_X11_laysDoors_152) ⟨by decide, by decide⟩⟩
theorem c_X11_laysDoors (l : Launch) : Ctr l yX11_laysDoors cX11_laysDoors 4 none 11 221 0 (fun sx => (nf G_X11_laysDoors)) := ctr_of (by decide) gz gz ⟨rfl, rfl⟩ (fun p e s m args below meth c D ca ad sx sy A Q as M C0 hE hr hno hF => P_X11_laysDoors (L_X11_laysDoors C0 hE hr hno) hF)
theorem wg1462 : Cond.code ⟨"WeighedHallModel", "laysDoors", "()V"⟩ prog_13_method_33_code 4 (Option.none : Option FieldType) ∈ GT := gt_mem 1582 (by decide +kernel) rfl
theorem wg1459 : Cond.methodLink "WeighedHallModel" 223 ⟨"WeighedHallModel", "laysDoors", "()V"⟩ ∈ GT := gt_mem 1579 (by decide +kernel) rfl
theorem wg1461 : Cond.instanceMethod ⟨"WeighedHallModel", "laysDoors", "()V"⟩ ∈ GT := gt_mem 1581 (by decide +kernel) rfl
theorem ws100 : Cond.selects "WeighedHallModel" ⟨"WeighedHallModel", "laysDoors", "()V"⟩ ⟨"WeighedHallModel", "laysDoors", "()V"⟩ ∈ GT := gt_mem 100 (by decide +kernel) rfl
theorem wg1233 : Cond.fieldLink "WeighedHallModel" 76 "WeighedHallModel" "spentAt" "[I" ∈ GT := gt_mem 1353 (by decide +kernel) rfl
theorem wg1214 : Cond.fieldLink "WeighedHallModel" 31 "WeighedHallModel" "person" "[[I" ∈ GT := gt_mem 1334 (by decide +kernel) rfl
theorem wg1232 : Cond.fieldLink "WeighedHallModel" 73 "WeighedHallModel" "strength" "[I" ∈ GT := gt_mem 1352 (by decide +kernel) rfl
theorem wg1229 : Cond.fieldLink "WeighedHallModel" 64 "WeighedHallModel" "holder" "[I" ∈ GT := gt_mem 1349 (by decide +kernel) rfl
theorem wg1230 : Cond.fieldLink "WeighedHallModel" 67 "WeighedHallModel" "by" "[I" ∈ GT := gt_mem 1350 (by decide +kernel) rfl
theorem d_X11_begins_0 : decode cX11_begins 0 = .ok (.aload_n 0, 1) := by decide +kernel
theorem d_X11_begins_1 : decode cX11_begins 1 = .ok (.invokevirtual 223, 3) := by decide +kernel
theorem d_X11_begins_4 : decode cX11_begins 4 = .ok (.iconst 0, 1) := by decide +kernel
theorem d_X11_begins_5 : decode cX11_begins 5 = .ok (.istore_n 1, 1) := by decide +kernel
theorem d_X11_begins_6 : decode cX11_begins 6 = .ok (.iload_n 1, 1) := by decide +kernel
theorem d_X11_begins_7 : decode cX11_begins 7 = .ok (.aload_n 0, 1) := by decide +kernel
theorem d_X11_begins_8 : decode cX11_begins 8 = .ok (.getfield 23, 3) := by decide +kernel
theorem d_X11_begins_11 : decode cX11_begins 11 = .ok (.iconst 0, 1) := by decide +kernel
theorem d_X11_begins_12 : decode cX11_begins 12 = .ok (.iaload, 1) := by decide +kernel
theorem d_X11_begins_13 : decode cX11_begins 13 = .ok (.if_icmp .ge 33, 3) := by decide +kernel
theorem d_X11_begins_16 : decode cX11_begins 16 = .ok (.aload_n 0, 1) := by decide +kernel
theorem d_X11_begins_17 : decode cX11_begins 17 = .ok (.getfield 73, 3) := by decide +kernel
theorem d_X11_begins_20 : decode cX11_begins 20 = .ok (.iload_n 1, 1) := by decide +kernel
theorem d_X11_begins_21 : decode cX11_begins 21 = .ok (.bipush 60, 2) := by decide +kernel
theorem d_X11_begins_23 : decode cX11_begins 23 = .ok (.aload_n 0, 1) := by decide +kernel
theorem d_X11_begins_24 : decode cX11_begins 24 = .ok (.getfield 31, 3) := by decide +kernel
theorem d_X11_begins_27 : decode cX11_begins 27 = .ok (.iload_n 1, 1) := by decide +kernel
theorem d_X11_begins_28 : decode cX11_begins 28 = .ok (.aaload, 1) := by decide +kernel
theorem d_X11_begins_29 : decode cX11_begins 29 = .ok (.iconst 1, 1) := by decide +kernel
theorem d_X11_begins_30 : decode cX11_begins 30 = .ok (.iaload, 1) := by decide +kernel
theorem d_X11_begins_31 : decode cX11_begins 31 = .ok (.imul, 1) := by decide +kernel
theorem d_X11_begins_32 : decode cX11_begins 32 = .ok (.iastore, 1) := by decide +kernel
theorem d_X11_begins_33 : decode cX11_begins 33 = .ok (.aload_n 0, 1) := by decide +kernel
theorem d_X11_begins_34 : decode cX11_begins 34 = .ok (.getfield 76, 3) := by decide +kernel
theorem d_X11_begins_37 : decode cX11_begins 37 = .ok (.iload_n 1, 1) := by decide +kernel
theorem d_X11_begins_38 : decode cX11_begins 38 = .ok (.iconst (-1), 1) := by decide +kernel
theorem d_X11_begins_39 : decode cX11_begins 39 = .ok (.iastore, 1) := by decide +kernel
theorem d_X11_begins_40 : decode cX11_begins 40 = .ok (.iinc 1 1, 3) := by decide +kernel
theorem d_X11_begins_43 : decode cX11_begins 43 = .ok (.goto (-37), 3) := by decide +kernel
theorem d_X11_begins_46 : decode cX11_begins 46 = .ok (.iconst 0, 1) := by decide +kernel
theorem d_X11_begins_47 : decode cX11_begins 47 = .ok (.istore_n 1, 1) := by decide +kernel
theorem d_X11_begins_48 : decode cX11_begins 48 = .ok (.iload_n 1, 1) := by decide +kernel
theorem d_X11_begins_49 : decode cX11_begins 49 = .ok (.aload_n 0, 1) := by decide +kernel
theorem d_X11_begins_50 : decode cX11_begins 50 = .ok (.getfield 23, 3) := by decide +kernel
theorem d_X11_begins_53 : decode cX11_begins 53 = .ok (.iconst 1, 1) := by decide +kernel
theorem d_X11_begins_54 : decode cX11_begins 54 = .ok (.iaload, 1) := by decide +kernel
theorem d_X11_begins_55 : decode cX11_begins 55 = .ok (.if_icmp .ge 47, 3) := by decide +kernel
theorem d_X11_begins_58 : decode cX11_begins 58 = .ok (.aload_n 0, 1) := by decide +kernel
theorem d_X11_begins_59 : decode cX11_begins 59 = .ok (.getfield 64, 3) := by decide +kernel
theorem d_X11_begins_62 : decode cX11_begins 62 = .ok (.iload_n 1, 1) := by decide +kernel
theorem d_X11_begins_63 : decode cX11_begins 63 = .ok (.aload_n 0, 1) := by decide +kernel
theorem d_X11_begins_64 : decode cX11_begins 64 = .ok (.getfield 37, 3) := by decide +kernel
theorem d_X11_begins_67 : decode cX11_begins 67 = .ok (.iload_n 1, 1) := by decide +kernel
theorem d_X11_begins_68 : decode cX11_begins 68 = .ok (.aaload, 1) := by decide +kernel
theorem d_X11_begins_69 : decode cX11_begins 69 = .ok (.iconst 2, 1) := by decide +kernel
theorem d_X11_begins_70 : decode cX11_begins 70 = .ok (.iaload, 1) := by decide +kernel
theorem d_X11_begins_71 : decode cX11_begins 71 = .ok (.iconst (-1), 1) := by decide +kernel
theorem d_X11_begins_72 : decode cX11_begins 72 = .ok (.if_icmp .ne 14, 3) := by decide +kernel
theorem d_X11_begins_75 : decode cX11_begins 75 = .ok (.aload_n 0, 1) := by decide +kernel
theorem d_X11_begins_76 : decode cX11_begins 76 = .ok (.getfield 37, 3) := by decide +kernel
theorem d_X11_begins_79 : decode cX11_begins 79 = .ok (.iload_n 1, 1) := by decide +kernel
theorem d_X11_begins_80 : decode cX11_begins 80 = .ok (.aaload, 1) := by decide +kernel
theorem d_X11_begins_81 : decode cX11_begins 81 = .ok (.iconst 0, 1) := by decide +kernel
theorem d_X11_begins_82 : decode cX11_begins 82 = .ok (.iaload, 1) := by decide +kernel
theorem d_X11_begins_83 : decode cX11_begins 83 = .ok (.goto 5, 3) := by decide +kernel
theorem d_X11_begins_86 : decode cX11_begins 86 = .ok (.bipush (-2), 2) := by decide +kernel
theorem d_X11_begins_88 : decode cX11_begins 88 = .ok (.iastore, 1) := by decide +kernel
theorem d_X11_begins_89 : decode cX11_begins 89 = .ok (.aload_n 0, 1) := by decide +kernel
theorem d_X11_begins_90 : decode cX11_begins 90 = .ok (.getfield 67, 3) := by decide +kernel
theorem d_X11_begins_93 : decode cX11_begins 93 = .ok (.iload_n 1, 1) := by decide +kernel
theorem d_X11_begins_94 : decode cX11_begins 94 = .ok (.iconst (-1), 1) := by decide +kernel
theorem d_X11_begins_95 : decode cX11_begins 95 = .ok (.iastore, 1) := by decide +kernel
theorem d_X11_begins_96 : decode cX11_begins 96 = .ok (.iinc 1 1, 3) := by decide +kernel
theorem d_X11_begins_99 : decode cX11_begins 99 = .ok (.goto (-51), 3) := by decide +kernel
theorem d_X11_begins_102 : decode cX11_begins 102 = .ok (.return_, 1) := by decide +kernel
set_option maxRecDepth 100000 in
theorem L_X11_begins {p : Program} {l : Launch} {e : Env} {s : State} {m : MethodId} {args : Array Value} {below : List Frame} {meth : Method} {c : Code} {D : va_G} {ca : Nat → ClassId} {ad sx sy : Nat → Nat} {A : Nat → Prop} {Q : QT} (C0 : CX p s m args meth c cX11_begins 2 yX11_begins.cls D ca ad A) (hE : EX sx sy A s s.heap) (hr : meth.sig.returnType = none) (hno : ∀ x ∈ c.exceptionTable.toList, False) : R_X11_begins (JW p l e { frames := 12, cells := 0, slots := 6 * 0, locals := 244 } s m args below meth c 2 D ca ad A (vx_MQ below (Qn D ca ad A Q) (Qx D ca ad A Q) args s 0 (6 * 0) A) gz gz true) Q := ⟨s_aln C0 (d_X11_begins_0) hgz (s_callV C0 hE (c_X11_laysDoors l) wg1462 wg1459 wg1461 ws100 wg12 ⟨by decide, by decide⟩ (by decide +kernel) (c0 := 11) rfl ⟨by decide, by decide⟩ ⟨by decide, by decide⟩ (d_X11_begins_1) (fun x hx => (hno x hx).elim) ⟨by decide, by decide⟩ ⟨by decide, by decide⟩ (s_ic C0 (d_X11_begins_4) hgz (s_isn C0 (d_X11_begins_5) hgz (fun _ _ _ h => h)) (okn rfl))),
  s_iln C0 (d_X11_begins_6) hgz (s_aln C0 (d_X11_begins_7) hgz (s_gr C0 (j := 11) (c0 := 11) rfl gX11 (by decide) rfl rfl wg1212 (d_X11_begins_8) hgz (s_ic C0 (d_X11_begins_11) hgz (s_ia C0 (d_X11_begins_12) hgz (s_cge C0 (d_X11_begins_13) (by decide) hgz hgz (fun _ _ _ h => h) (s_aln C0 (d_X11_begins_16) hgz (s_gr C0 (j := 31) (c0 := 11) rfl gX11 (by decide) rfl rfl wg1232 (d_X11_begins_17) hgz (s_iln C0 (d_X11_begins_20) hgz (s_bi C0 (d_X11_begins_21) hgz (s_aln C0 (d_X11_begins_23) hgz (s_gr C0 (j := 13) (c0 := 11) rfl gX11 (by decide) rfl rfl wg1214 (d_X11_begins_24) hgz (s_iln C0 (d_X11_begins_27) hgz (s_aa C0 (by decide) (by decide) rfl rfl (d_X11_begins_28) hgz (s_ic C0 (d_X11_begins_29) hgz (s_ia C0 (d_X11_begins_30) hgz (s_mul C0 (d_X11_begins_31) hgz (s_iax C0 (d_X11_begins_32) hgz (s_aln C0 (d_X11_begins_33) hgz (s_gr C0 (j := 32) (c0 := 11) rfl gX11 (by decide) rfl rfl wg1233 (d_X11_begins_34) hgz (s_iln C0 (d_X11_begins_37) hgz (s_ic C0 (d_X11_begins_38) hgz (s_iax C0 (d_X11_begins_39) hgz (s_inc C0 (d_X11_begins_40) hgz (s_goto C0 (tgt := 6) (d_X11_begins_43) (by decide) hgz (fun _ _ _ h => h)))) (okn rfl)))))))) (okn rfl)))))) (okn rfl) rfl)))))) (okn rfl)))),
  s_ic C0 (d_X11_begins_46) hgz (s_isn C0 (d_X11_begins_47) hgz (fun _ _ _ h => h)) (okn rfl),
  s_iln C0 (d_X11_begins_48) hgz (s_aln C0 (d_X11_begins_49) hgz (s_gr C0 (j := 11) (c0 := 11) rfl gX11 (by decide) rfl rfl wg1212 (d_X11_begins_50) hgz (s_ic C0 (d_X11_begins_53) hgz (s_ia C0 (d_X11_begins_54) hgz (s_cge C0 (d_X11_begins_55) (by decide) hgz hgz (fun _ _ _ h => h) (s_aln C0 (d_X11_begins_58) hgz (s_gr C0 (j := 28) (c0 := 11) rfl gX11 (by decide) rfl rfl wg1229 (d_X11_begins_59) hgz (s_iln C0 (d_X11_begins_62) hgz (s_aln C0 (d_X11_begins_63) hgz (s_gr C0 (j := 15) (c0 := 11) rfl gX11 (by decide) rfl rfl wg1216 (d_X11_begins_64) hgz (s_iln C0 (d_X11_begins_67) hgz (s_aa C0 (by decide) (by decide) rfl rfl (d_X11_begins_68) hgz (s_ic C0 (d_X11_begins_69) hgz (s_ia C0 (d_X11_begins_70) hgz (s_ic C0 (d_X11_begins_71) hgz (s_cne C0 (d_X11_begins_72) (by decide) hgz hgz (fun _ _ _ h => h) (s_aln C0 (d_X11_begins_75) hgz (s_gr C0 (j := 15) (c0 := 11) rfl gX11 (by decide) rfl rfl wg1216 (d_X11_begins_76) hgz (s_iln C0 (d_X11_begins_79) hgz (s_aa C0 (by decide) (by decide) rfl rfl (d_X11_begins_80) hgz (s_ic C0 (d_X11_begins_81) hgz (s_ia C0 (d_X11_begins_82) hgz (s_goto C0 (tgt := 88) (d_X11_begins_83) (by decide) hgz (fun _ _ _ h => h))) (okn rfl))))))) (okn rfl))) (okn rfl))))))))))) (okn rfl)))),
  s_bi C0 (d_X11_begins_86) hgz (fun _ _ _ h => h) (okn rfl) rfl,
  s_iax C0 (d_X11_begins_88) hgz (s_aln C0 (d_X11_begins_89) hgz (s_gr C0 (j := 29) (c0 := 11) rfl gX11 (by decide) rfl rfl wg1230 (d_X11_begins_90) hgz (s_iln C0 (d_X11_begins_93) hgz (s_ic C0 (d_X11_begins_94) hgz (s_iax C0 (d_X11_begins_95) hgz (s_inc C0 (d_X11_begins_96) hgz (s_goto C0 (tgt := 48) (d_X11_begins_99) (by decide) hgz (fun _ _ _ h => h)))) (okn rfl))))),
  s_rv C0 hr (d_X11_begins_102) ⟨by decide, by decide⟩⟩
theorem c_X11_begins (l : Launch) : Ctr l yX11_begins cX11_begins 2 none 12 244 0 (fun sx => (nf G_X11_begins)) := ctr_of (by decide) gz gz ⟨rfl, rfl⟩ (fun p e s m args below meth c D ca ad sx sy A Q as M C0 hE hr hno hF => P_X11_begins (L_X11_begins C0 hE hr hno) hF)
theorem wg1203 : Cond.fieldLink "WeighedHallModel" 112 "WeighedHallModel" "size" "I" ∈ GT := gt_mem 1323 (by decide +kernel) rfl
theorem wg1209 : Cond.fieldLink "WeighedHallModel" 13 "WeighedHallModel" "fed" "[I" ∈ GT := gt_mem 1329 (by decide +kernel) rfl
theorem d_X11_byteAt_0 : decode cX11_byteAt 0 = .ok (.iload_n 1, 1) := by decide +kernel
theorem d_X11_byteAt_1 : decode cX11_byteAt 1 = .ok (.aload_n 0, 1) := by decide +kernel
theorem d_X11_byteAt_2 : decode cX11_byteAt 2 = .ok (.getfield 112, 3) := by decide +kernel
theorem d_X11_byteAt_5 : decode cX11_byteAt 5 = .ok (.if_icmp .lt 7, 3) := by decide +kernel
theorem d_X11_byteAt_8 : decode cX11_byteAt 8 = .ok (.iconst (-1), 1) := by decide +kernel
theorem d_X11_byteAt_9 : decode cX11_byteAt 9 = .ok (.goto 9, 3) := by decide +kernel
theorem d_X11_byteAt_12 : decode cX11_byteAt 12 = .ok (.aload_n 0, 1) := by decide +kernel
theorem d_X11_byteAt_13 : decode cX11_byteAt 13 = .ok (.getfield 13, 3) := by decide +kernel
theorem d_X11_byteAt_16 : decode cX11_byteAt 16 = .ok (.iload_n 1, 1) := by decide +kernel
theorem d_X11_byteAt_17 : decode cX11_byteAt 17 = .ok (.iaload, 1) := by decide +kernel
theorem d_X11_byteAt_18 : decode cX11_byteAt 18 = .ok (.ireturn, 1) := by decide +kernel
set_option maxRecDepth 100000 in
theorem L_X11_byteAt {p : Program} {l : Launch} {e : Env} {s : State} {m : MethodId} {args : Array Value} {below : List Frame} {meth : Method} {c : Code} {D : va_G} {ca : Nat → ClassId} {ad sx sy : Nat → Nat} {A : Nat → Prop} {Q : QT} (C0 : CX p s m args meth c cX11_byteAt 2 yX11_byteAt.cls D ca ad A) (hE : EX sx sy A s s.heap) (hr : meth.sig.returnType = (some .int)) (hno : ∀ x ∈ c.exceptionTable.toList, False) : R_X11_byteAt (JW p l e { frames := 10, cells := 0, slots := 6 * 0, locals := 200 } s m args below meth c 2 D ca ad A (vx_MQ below (Qn D ca ad A Q) (Qx D ca ad A Q) args s 0 (6 * 0) A) gz gz true) Q := ⟨s_iln C0 (d_X11_byteAt_0) hgz (s_aln C0 (d_X11_byteAt_1) hgz (s_gi C0 (j := 2) (c0 := 11) rfl gX11 (by decide) rfl (by decide) wg1203 (d_X11_byteAt_2) hgz (s_clt C0 (d_X11_byteAt_5) (by decide) hgz hgz (fun _ _ _ h => h) (s_ic C0 (d_X11_byteAt_8) hgz (s_goto C0 (tgt := 18) (d_X11_byteAt_9) (by decide) hgz (fun _ _ _ h => h)) (okn rfl))))),
  s_aln C0 (d_X11_byteAt_12) hgz (s_gr C0 (j := 8) (c0 := 11) rfl gX11 (by decide) rfl rfl wg1209 (d_X11_byteAt_13) hgz (s_iln C0 (d_X11_byteAt_16) hgz (s_ia C0 (d_X11_byteAt_17) hgz (fun _ _ _ h => h)))),
  s_ri C0 hr (d_X11_byteAt_18) ⟨by decide, by decide⟩⟩
theorem c_X11_byteAt (l : Launch) : Ctr l yX11_byteAt cX11_byteAt 2 (some .int) 10 200 0 (fun sx => (nf G_X11_byteAt)) := ctr_of (by decide) gz gz ⟨rfl, rfl⟩ (fun p e s m args below meth c D ca ad sx sy A Q as M C0 hE hr hno hF => P_X11_byteAt (L_X11_byteAt C0 hE hr hno) hF)
theorem wg1205 : Cond.fieldLink "WeighedHallModel" 115 "WeighedHallModel" "at" "I" ∈ GT := gt_mem 1325 (by decide +kernel) rfl
theorem wg1371 : Cond.code ⟨"WeighedHallModel", "byteAt", "(I)I"⟩ prog_13_method_6_code 2 (Option.some .int) ∈ GT := gt_mem 1491 (by decide +kernel) rfl
theorem wg1368 : Cond.methodLink "WeighedHallModel" 118 ⟨"WeighedHallModel", "byteAt", "(I)I"⟩ ∈ GT := gt_mem 1488 (by decide +kernel) rfl
theorem wg1370 : Cond.instanceMethod ⟨"WeighedHallModel", "byteAt", "(I)I"⟩ ∈ GT := gt_mem 1490 (by decide +kernel) rfl
theorem ws85 : Cond.selects "WeighedHallModel" ⟨"WeighedHallModel", "byteAt", "(I)I"⟩ ⟨"WeighedHallModel", "byteAt", "(I)I"⟩ ∈ GT := gt_mem 85 (by decide +kernel) rfl
theorem d_X11_blanks_0 : decode cX11_blanks 0 = .ok (.aload_n 0, 1) := by decide +kernel
theorem d_X11_blanks_1 : decode cX11_blanks 1 = .ok (.aload_n 0, 1) := by decide +kernel
theorem d_X11_blanks_2 : decode cX11_blanks 2 = .ok (.getfield 115, 3) := by decide +kernel
theorem d_X11_blanks_5 : decode cX11_blanks 5 = .ok (.invokevirtual 118, 3) := by decide +kernel
theorem d_X11_blanks_8 : decode cX11_blanks 8 = .ok (.bipush 32, 2) := by decide +kernel
theorem d_X11_blanks_10 : decode cX11_blanks 10 = .ok (.if_icmp .ne 16, 3) := by decide +kernel
theorem d_X11_blanks_13 : decode cX11_blanks 13 = .ok (.aload_n 0, 1) := by decide +kernel
theorem d_X11_blanks_14 : decode cX11_blanks 14 = .ok (.dup, 1) := by decide +kernel
theorem d_X11_blanks_15 : decode cX11_blanks 15 = .ok (.getfield 115, 3) := by decide +kernel
theorem d_X11_blanks_18 : decode cX11_blanks 18 = .ok (.iconst 1, 1) := by decide +kernel
theorem d_X11_blanks_19 : decode cX11_blanks 19 = .ok (.iadd, 1) := by decide +kernel
theorem d_X11_blanks_20 : decode cX11_blanks 20 = .ok (.putfield 115, 3) := by decide +kernel
theorem d_X11_blanks_23 : decode cX11_blanks 23 = .ok (.goto (-23), 3) := by decide +kernel
theorem d_X11_blanks_26 : decode cX11_blanks 26 = .ok (.return_, 1) := by decide +kernel
set_option maxRecDepth 100000 in
theorem L_X11_blanks {p : Program} {l : Launch} {e : Env} {s : State} {m : MethodId} {args : Array Value} {below : List Frame} {meth : Method} {c : Code} {D : va_G} {ca : Nat → ClassId} {ad sx sy : Nat → Nat} {A : Nat → Prop} {Q : QT} (C0 : CX p s m args meth c cX11_blanks 1 yX11_blanks.cls D ca ad A) (hE : EX sx sy A s s.heap) (hr : meth.sig.returnType = none) (hno : ∀ x ∈ c.exceptionTable.toList, False) : R_X11_blanks (JW p l e { frames := 11, cells := 0, slots := 6 * 0, locals := 221 } s m args below meth c 1 D ca ad A (vx_MQ below (Qn D ca ad A Q) (Qx D ca ad A Q) args s 0 (6 * 0) A) gz gz true) Q := ⟨s_aln C0 (d_X11_blanks_0) hgz (s_aln C0 (d_X11_blanks_1) hgz (s_gi C0 (j := 4) (c0 := 11) rfl gX11 (by decide) rfl (by decide) wg1205 (d_X11_blanks_2) hgz (s_callV C0 hE (c_X11_byteAt l) wg1371 wg1368 wg1370 ws85 wg12 ⟨by decide, by decide⟩ (by decide +kernel) (c0 := 11) rfl ⟨by decide, by decide⟩ ⟨by decide, by decide⟩ (d_X11_blanks_5) (fun x hx => (hno x hx).elim) ⟨by decide, by decide⟩ ⟨by decide, by decide⟩ (s_bi C0 (d_X11_blanks_8) hgz (s_cne C0 (d_X11_blanks_10) (by decide) hgz hgz (fun _ _ _ h => h) (s_aln C0 (d_X11_blanks_13) hgz (s_dup C0 (d_X11_blanks_14) hgz (s_gi C0 (j := 4) (c0 := 11) rfl gX11 (by decide) rfl (by decide) wg1205 (d_X11_blanks_15) hgz (s_ic C0 (d_X11_blanks_18) hgz (s_add C0 (d_X11_blanks_19) hgz (s_pi C0 (j := 4) (c0 := 11) rfl gX11 tyX11_ok nmX11 (by decide) rfl (by decide) rfl rfl wg1205 (d_X11_blanks_20) hgz (s_goto C0 (tgt := 0) (d_X11_blanks_23) (by decide) hgz (fun _ _ _ h => h)))) (okn rfl)))))) (okn rfl) rfl)))),
  s_rv C0 hr (d_X11_blanks_26) ⟨by decide, by decide⟩⟩
theorem c_X11_blanks (l : Launch) : Ctr l yX11_blanks cX11_blanks 1 none 11 221 0 (fun sx => (nf G_X11_blanks)) := ctr_of (by decide) gz gz ⟨rfl, rfl⟩ (fun p e s m args below meth c D ca ad sx sy A Q as M C0 hE hr hno hF => P_X11_blanks (L_X11_blanks C0 hE hr hno) hF)
theorem d_X11_in_0 : decode cX11_in 0 = .ok (.iload_n 0, 1) := by decide +kernel
theorem d_X11_in_1 : decode cX11_in 1 = .ok (.iload_n 1, 1) := by decide +kernel
theorem d_X11_in_2 : decode cX11_in 2 = .ok (.if_icmp .lt 12, 3) := by decide +kernel
theorem d_X11_in_5 : decode cX11_in 5 = .ok (.iload_n 0, 1) := by decide +kernel
theorem d_X11_in_6 : decode cX11_in 6 = .ok (.iload_n 2, 1) := by decide +kernel
theorem d_X11_in_7 : decode cX11_in 7 = .ok (.if_icmp .gt 7, 3) := by decide +kernel
theorem d_X11_in_10 : decode cX11_in 10 = .ok (.iconst 1, 1) := by decide +kernel
theorem d_X11_in_11 : decode cX11_in 11 = .ok (.goto 4, 3) := by decide +kernel
theorem d_X11_in_14 : decode cX11_in 14 = .ok (.iconst 0, 1) := by decide +kernel
theorem d_X11_in_15 : decode cX11_in 15 = .ok (.ireturn, 1) := by decide +kernel
set_option maxRecDepth 100000 in
theorem L_X11_in {p : Program} {l : Launch} {e : Env} {s : State} {m : MethodId} {args : Array Value} {below : List Frame} {meth : Method} {c : Code} {D : va_G} {ca : Nat → ClassId} {ad sx sy : Nat → Nat} {A : Nat → Prop} {Q : QT} (C0 : CX p s m args meth c cX11_in 3 yX11_in.cls D ca ad A) (hE : EX sx sy A s s.heap) (hr : meth.sig.returnType = (some .boolean)) (hno : ∀ x ∈ c.exceptionTable.toList, False) : R_X11_in (JW p l e { frames := 10, cells := 0, slots := 6 * 0, locals := 200 } s m args below meth c 3 D ca ad A (vx_MQ below (Qn D ca ad A Q) (Qx D ca ad A Q) args s 0 (6 * 0) A) gz gz true) Q := ⟨s_iln C0 (d_X11_in_0) hgz (s_iln C0 (d_X11_in_1) hgz (s_clt C0 (d_X11_in_2) (by decide) hgz hgz (fun _ _ _ h => h) (s_iln C0 (d_X11_in_5) hgz (s_iln C0 (d_X11_in_6) hgz (s_cgt C0 (d_X11_in_7) (by decide) hgz hgz (fun _ _ _ h => h) (s_ic C0 (d_X11_in_10) hgz (s_goto C0 (tgt := 15) (d_X11_in_11) (by decide) hgz (fun _ _ _ h => h)) (okn rfl))))))),
  s_ic C0 (d_X11_in_14) hgz (fun _ _ _ h => h) (okn rfl),
  s_rz C0 hr (d_X11_in_15) ⟨by decide, by decide⟩⟩
theorem c_X11_in (l : Launch) : Ctr l yX11_in cX11_in 3 (some .boolean) 10 200 0 (fun sx => (nf G_X11_in)) := ctr_of (by decide) gz gz ⟨rfl, rfl⟩ (fun p e s m args below meth c D ca ad sx sy A Q as M C0 hE hr hno hF => P_X11_in (L_X11_in C0 hE hr hno) hF)
