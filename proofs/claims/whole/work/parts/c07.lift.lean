theorem wn918 : Cond.methodLinkNest "WeighedHall$Sitting" 124 ⟨"WeighedHall", "isIn", "(II)Z"⟩ "WeighedHall" ∈ NT := nt_mem 918 (by decide +kernel) rfl
theorem wg921 : Cond.code ⟨"WeighedHall", "rootOf", "(I)I"⟩ prog_1_method_44_code 3 (Option.some .int) ∈ GT := gt_mem 1041 (by decide +kernel) rfl
theorem wn919 : Cond.methodLinkNest "WeighedHall$Sitting" 128 ⟨"WeighedHall", "rootOf", "(I)I"⟩ "WeighedHall" ∈ NT := nt_mem 919 (by decide +kernel) rfl
theorem wg920 : Cond.static ⟨"WeighedHall", "rootOf", "(I)I"⟩ ∈ GT := gt_mem 1040 (by decide +kernel) rfl
theorem d_X8_countOf_0 : decode cX8_countOf 0 = .ok (.iconst 0, 1) := by decide +kernel
theorem d_X8_countOf_1 : decode cX8_countOf 1 = .ok (.istore_n 3, 1) := by decide +kernel
theorem d_X8_countOf_2 : decode cX8_countOf 2 = .ok (.iconst 0, 1) := by decide +kernel
theorem d_X8_countOf_3 : decode cX8_countOf 3 = .ok (.istore 4, 2) := by decide +kernel
theorem d_X8_countOf_5 : decode cX8_countOf 5 = .ok (.iload 4, 2) := by decide +kernel
theorem d_X8_countOf_7 : decode cX8_countOf 7 = .ok (.aload_n 0, 1) := by decide +kernel
theorem d_X8_countOf_8 : decode cX8_countOf 8 = .ok (.getfield 12, 3) := by decide +kernel
theorem d_X8_countOf_11 : decode cX8_countOf 11 = .ok (.getfield 61, 3) := by decide +kernel
theorem d_X8_countOf_14 : decode cX8_countOf 14 = .ok (.if_icmp .ge 54, 3) := by decide +kernel
theorem d_X8_countOf_17 : decode cX8_countOf 17 = .ok (.iload 4, 2) := by decide +kernel
theorem d_X8_countOf_19 : decode cX8_countOf 19 = .ok (.iload_n 1, 1) := by decide +kernel
theorem d_X8_countOf_20 : decode cX8_countOf 20 = .ok (.invokestatic 124, 3) := by decide +kernel
theorem d_X8_countOf_23 : decode cX8_countOf 23 = .ok (.ifCond .eq 39, 3) := by decide +kernel
theorem d_X8_countOf_26 : decode cX8_countOf 26 = .ok (.iload_n 3, 1) := by decide +kernel
theorem d_X8_countOf_27 : decode cX8_countOf 27 = .ok (.iload_n 2, 1) := by decide +kernel
theorem d_X8_countOf_28 : decode cX8_countOf 28 = .ok (.iconst 2, 1) := by decide +kernel
theorem d_X8_countOf_29 : decode cX8_countOf 29 = .ok (.if_icmp .ne 7, 3) := by decide +kernel
theorem d_X8_countOf_32 : decode cX8_countOf 32 = .ok (.iconst 1, 1) := by decide +kernel
theorem d_X8_countOf_33 : decode cX8_countOf 33 = .ok (.goto 27, 3) := by decide +kernel
theorem d_X8_countOf_36 : decode cX8_countOf 36 = .ok (.iload_n 2, 1) := by decide +kernel
theorem d_X8_countOf_37 : decode cX8_countOf 37 = .ok (.ifCond .ne 13, 3) := by decide +kernel
theorem d_X8_countOf_40 : decode cX8_countOf 40 = .ok (.aload_n 0, 1) := by decide +kernel
theorem d_X8_countOf_41 : decode cX8_countOf 41 = .ok (.getfield 35, 3) := by decide +kernel
theorem d_X8_countOf_44 : decode cX8_countOf 44 = .ok (.iload 4, 2) := by decide +kernel
theorem d_X8_countOf_46 : decode cX8_countOf 46 = .ok (.iaload, 1) := by decide +kernel
theorem d_X8_countOf_47 : decode cX8_countOf 47 = .ok (.goto 13, 3) := by decide +kernel
theorem d_X8_countOf_50 : decode cX8_countOf 50 = .ok (.aload_n 0, 1) := by decide +kernel
theorem d_X8_countOf_51 : decode cX8_countOf 51 = .ok (.getfield 35, 3) := by decide +kernel
theorem d_X8_countOf_54 : decode cX8_countOf 54 = .ok (.iload 4, 2) := by decide +kernel
theorem d_X8_countOf_56 : decode cX8_countOf 56 = .ok (.iaload, 1) := by decide +kernel
theorem d_X8_countOf_57 : decode cX8_countOf 57 = .ok (.invokestatic 128, 3) := by decide +kernel
theorem d_X8_countOf_60 : decode cX8_countOf 60 = .ok (.iadd, 1) := by decide +kernel
theorem d_X8_countOf_61 : decode cX8_countOf 61 = .ok (.istore_n 3, 1) := by decide +kernel
theorem d_X8_countOf_62 : decode cX8_countOf 62 = .ok (.iinc 4 1, 3) := by decide +kernel
theorem d_X8_countOf_65 : decode cX8_countOf 65 = .ok (.goto (-60), 3) := by decide +kernel
theorem d_X8_countOf_68 : decode cX8_countOf 68 = .ok (.iload_n 3, 1) := by decide +kernel
theorem d_X8_countOf_69 : decode cX8_countOf 69 = .ok (.ireturn, 1) := by decide +kernel
set_option maxRecDepth 100000 in
theorem L_X8_countOf {p : Program} {l : Launch} {e : Env} {s : State} {m : MethodId} {args : Array Value} {below : List Frame} {meth : Method} {c : Code} {D : va_G} {ca : Nat → ClassId} {ad sx sy : Nat → Nat} {A : Nat → Prop} {Q : QT} (C0 : CX p s m args meth c cX8_countOf 5 yX8_countOf.cls D ca ad A) (hE : EX sx sy A s s.heap) (hr : meth.sig.returnType = (some .int)) (hno : ∀ x ∈ c.exceptionTable.toList, False) : R_X8_countOf (JW p l e { frames := 11, cells := 0, slots := 6 * 0, locals := 222 } s m args below meth c 5 D ca ad A (vx_MQ below (Qn D ca ad A Q) (Qx D ca ad A Q) args s 0 (6 * 0) A) gz gz true) Q := ⟨s_ic C0 (d_X8_countOf_0) hgz (s_isn C0 (d_X8_countOf_1) hgz (s_ic C0 (d_X8_countOf_2) hgz (s_is C0 (d_X8_countOf_3) hgz (fun _ _ _ h => h)) (okn rfl))) (okn rfl),
  s_il C0 (d_X8_countOf_5) hgz (s_aln C0 (d_X8_countOf_7) hgz (s_gm C0 (j := 0) (c0 := 8) rfl gX8 (by decide) rfl rfl wg236 (d_X8_countOf_8) hgz (s_giN C0 (j := 0) (c0 := 6) rfl gX6 (by decide) rfl (by decide) wn73 (d_X8_countOf_11) hgz (s_cge C0 (d_X8_countOf_14) (by decide) hgz hgz (fun _ _ _ h => h) (s_il C0 (d_X8_countOf_17) hgz (s_iln C0 (d_X8_countOf_19) hgz (s_callSN C0 hE (c_X10_isIn l) wg491 wn918 wg490 wg1 ⟨by decide, by decide⟩ (by decide +kernel) ⟨by decide, by decide⟩ ⟨by decide, by decide⟩ (d_X8_countOf_20) (fun x hx => (hno x hx).elim) ⟨by decide, by decide⟩ ⟨by decide, by decide⟩ (s_zeq C0 (d_X8_countOf_23) (by decide) hgz hgz (fun _ _ _ h => h) (s_iln C0 (d_X8_countOf_26) hgz (s_iln C0 (d_X8_countOf_27) hgz (s_ic C0 (d_X8_countOf_28) hgz (s_cne C0 (d_X8_countOf_29) (by decide) hgz hgz (fun _ _ _ h => h) (s_ic C0 (d_X8_countOf_32) hgz (s_goto C0 (tgt := 60) (d_X8_countOf_33) (by decide) hgz (fun _ _ _ h => h)) (okn rfl))) (okn rfl)))))))))))),
  s_iln C0 (d_X8_countOf_36) hgz (s_zne C0 (d_X8_countOf_37) (by decide) hgz hgz (fun _ _ _ h => h) (s_aln C0 (d_X8_countOf_40) hgz (s_gr C0 (j := 5) (c0 := 8) rfl gX8 (by decide) rfl rfl wg244 (d_X8_countOf_41) hgz (s_il C0 (d_X8_countOf_44) hgz (s_ia C0 (d_X8_countOf_46) hgz (s_goto C0 (tgt := 60) (d_X8_countOf_47) (by decide) hgz (fun _ _ _ h => h))))))),
  s_aln C0 (d_X8_countOf_50) hgz (s_gr C0 (j := 5) (c0 := 8) rfl gX8 (by decide) rfl rfl wg244 (d_X8_countOf_51) hgz (s_il C0 (d_X8_countOf_54) hgz (s_ia C0 (d_X8_countOf_56) hgz (s_callSN C0 hE (c_X10_rootOf l) wg921 wn919 wg920 wg1 ⟨by decide, by decide⟩ (by decide +kernel) ⟨by decide, by decide⟩ ⟨by decide, by decide⟩ (d_X8_countOf_57) (fun x hx => (hno x hx).elim) ⟨by decide, by decide⟩ ⟨by decide, by decide⟩ (fun _ _ _ h => h))))),
  s_add C0 (d_X8_countOf_60) hgz (s_isn C0 (d_X8_countOf_61) hgz (fun _ _ _ h => h)),
  s_inc C0 (d_X8_countOf_62) hgz (s_goto C0 (tgt := 5) (d_X8_countOf_65) (by decide) hgz (fun _ _ _ h => h)),
  s_iln C0 (d_X8_countOf_68) hgz (s_ri C0 hr (d_X8_countOf_69) ⟨by decide, by decide⟩)⟩
theorem c_X8_countOf (l : Launch) : Ctr l yX8_countOf cX8_countOf 5 (some .int) 11 222 0 (fun sx => (nf G_X8_countOf)) := ctr_of (by decide) gz gz ⟨rfl, rfl⟩ (fun p e s m args below meth c D ca ad sx sy A Q as M C0 hE hr hno hF => P_X8_countOf (L_X8_countOf C0 hE hr hno) hF)
theorem d_X3_placeOf_0 : decode cX3_placeOf 0 = .ok (.iload_n 0, 1) := by decide +kernel
theorem d_X3_placeOf_1 : decode cX3_placeOf 1 = .ok (.iconst 3, 1) := by decide +kernel
theorem d_X3_placeOf_2 : decode cX3_placeOf 2 = .ok (.imul, 1) := by decide +kernel
theorem d_X3_placeOf_3 : decode cX3_placeOf 3 = .ok (.iload_n 1, 1) := by decide +kernel
theorem d_X3_placeOf_4 : decode cX3_placeOf 4 = .ok (.iadd, 1) := by decide +kernel
theorem d_X3_placeOf_5 : decode cX3_placeOf 5 = .ok (.iconst 2, 1) := by decide +kernel
theorem d_X3_placeOf_6 : decode cX3_placeOf 6 = .ok (.imul, 1) := by decide +kernel
theorem d_X3_placeOf_7 : decode cX3_placeOf 7 = .ok (.iload_n 2, 1) := by decide +kernel
theorem d_X3_placeOf_8 : decode cX3_placeOf 8 = .ok (.iadd, 1) := by decide +kernel
theorem d_X3_placeOf_9 : decode cX3_placeOf 9 = .ok (.ireturn, 1) := by decide +kernel
set_option maxRecDepth 100000 in
theorem L_X3_placeOf {p : Program} {l : Launch} {e : Env} {s : State} {m : MethodId} {args : Array Value} {below : List Frame} {meth : Method} {c : Code} {D : va_G} {ca : Nat → ClassId} {ad sx sy : Nat → Nat} {A : Nat → Prop} {Q : QT} (C0 : CX p s m args meth c cX3_placeOf 3 yX3_placeOf.cls D ca ad A) (hE : EX sx sy A s s.heap) (hr : meth.sig.returnType = (some .int)) (hno : ∀ x ∈ c.exceptionTable.toList, False) : R_X3_placeOf (JW p l e { frames := 10, cells := 0, slots := 6 * 0, locals := 200 } s m args below meth c 3 D ca ad A (vx_MQ below (Qn D ca ad A Q) (Qx D ca ad A Q) args s 0 (6 * 0) A) gz gz true) Q := s_iln C0 (d_X3_placeOf_0) hgz (s_ic C0 (d_X3_placeOf_1) hgz (s_mul C0 (d_X3_placeOf_2) hgz (s_iln C0 (d_X3_placeOf_3) hgz (s_add C0 (d_X3_placeOf_4) hgz (s_ic C0 (d_X3_placeOf_5) hgz (s_mul C0 (d_X3_placeOf_6) hgz (s_iln C0 (d_X3_placeOf_7) hgz (s_add C0 (d_X3_placeOf_8) hgz (s_ri C0 hr (d_X3_placeOf_9) ⟨by decide, by decide⟩)))) (okn rfl))))) (okn rfl))
theorem c_X3_placeOf (l : Launch) : Ctr l yX3_placeOf cX3_placeOf 3 (some .int) 10 200 0 (fun sx => (nf G_X3_placeOf)) := ctr_of (by decide) gz gz ⟨rfl, rfl⟩ (fun p e s m args below meth c D ca ad sx sy A Q as M C0 hE hr hno hF => P_X3_placeOf (L_X3_placeOf C0 hE hr hno) hF)
theorem wn237 : Cond.fieldLinkNest "WeighedHall$Chronicle" 56 "WeighedHall$Sitting" "plan" "LWeighedHall$Plan;" "WeighedHall" ∈ NT := nt_mem 237 (by decide +kernel) rfl
theorem wg269 : Cond.fieldLink "WeighedHall$Chronicle" 12 "WeighedHall$Chronicle" "sitting" "LWeighedHall$Sitting;" ∈ GT := gt_mem 389 (by decide +kernel) rfl
theorem wn120 : Cond.fieldLinkNest "WeighedHall$Chronicle" 66 "WeighedHall$Plan" "minute" "[I" "WeighedHall" ∈ NT := nt_mem 120 (by decide +kernel) rfl
theorem wn116 : Cond.fieldLinkNest "WeighedHall$Chronicle" 60 "WeighedHall$Plan" "motions" "I" "WeighedHall" ∈ NT := nt_mem 116 (by decide +kernel) rfl
theorem wg917 : Cond.code ⟨"WeighedHall$Sitting", "countOf", "(II)I"⟩ prog_10_method_13_code 5 (Option.some .int) ∈ GT := gt_mem 1037 (by decide +kernel) rfl
theorem wn914 : Cond.methodLinkNest "WeighedHall$Chronicle" 76 ⟨"WeighedHall$Sitting", "countOf", "(II)I"⟩ "WeighedHall" ∈ NT := nt_mem 914 (by decide +kernel) rfl
theorem wg916 : Cond.instanceMethod ⟨"WeighedHall$Sitting", "countOf", "(II)I"⟩ ∈ GT := gt_mem 1036 (by decide +kernel) rfl
theorem ws53 : Cond.selects "WeighedHall$Sitting" ⟨"WeighedHall$Sitting", "countOf", "(II)I"⟩ ⟨"WeighedHall$Sitting", "countOf", "(II)I"⟩ ∈ GT := gt_mem 53 (by decide +kernel) rfl
theorem wn129 : Cond.fieldLinkNest "WeighedHall$Chronicle" 80 "WeighedHall$Plan" "con" "[I" "WeighedHall" ∈ NT := nt_mem 129 (by decide +kernel) rfl
theorem wg913 : Cond.code ⟨"WeighedHall$Chronicle", "placeOf", "(III)I"⟩ prog_5_method_4_code 3 (Option.some .int) ∈ GT := gt_mem 1033 (by decide +kernel) rfl
theorem wg6 : Cond.initialized "WeighedHall$Chronicle" ∈ GT := gt_mem 126 (by decide +kernel) rfl
theorem wg911 : Cond.methodLink "WeighedHall$Chronicle" 69 ⟨"WeighedHall$Chronicle", "placeOf", "(III)I"⟩ ∈ GT := gt_mem 1031 (by decide +kernel) rfl
theorem wg912 : Cond.static ⟨"WeighedHall$Chronicle", "placeOf", "(III)I"⟩ ∈ GT := gt_mem 1032 (by decide +kernel) rfl
theorem wg273 : Cond.fieldLink "WeighedHall$Chronicle" 25 "WeighedHall$Chronicle" "counts" "[I" ∈ GT := gt_mem 393 (by decide +kernel) rfl
theorem wn126 : Cond.fieldLinkNest "WeighedHall$Chronicle" 73 "WeighedHall$Plan" "pro" "[I" "WeighedHall" ∈ NT := nt_mem 126 (by decide +kernel) rfl
theorem d_X3_countMotionsOf_0 : decode cX3_countMotionsOf 0 = .ok (.aload_n 0, 1) := by decide +kernel
theorem d_X3_countMotionsOf_1 : decode cX3_countMotionsOf 1 = .ok (.getfield 12, 3) := by decide +kernel
theorem d_X3_countMotionsOf_4 : decode cX3_countMotionsOf 4 = .ok (.getfield 56, 3) := by decide +kernel
theorem d_X3_countMotionsOf_7 : decode cX3_countMotionsOf 7 = .ok (.astore_n 2, 1) := by decide +kernel
theorem d_X3_countMotionsOf_8 : decode cX3_countMotionsOf 8 = .ok (.iconst 0, 1) := by decide +kernel
theorem d_X3_countMotionsOf_9 : decode cX3_countMotionsOf 9 = .ok (.istore_n 3, 1) := by decide +kernel
theorem d_X3_countMotionsOf_10 : decode cX3_countMotionsOf 10 = .ok (.iload_n 3, 1) := by decide +kernel
theorem d_X3_countMotionsOf_11 : decode cX3_countMotionsOf 11 = .ok (.aload_n 2, 1) := by decide +kernel
theorem d_X3_countMotionsOf_12 : decode cX3_countMotionsOf 12 = .ok (.getfield 60, 3) := by decide +kernel
theorem d_X3_countMotionsOf_15 : decode cX3_countMotionsOf 15 = .ok (.if_icmp .ge 88, 3) := by decide +kernel
theorem d_X3_countMotionsOf_18 : decode cX3_countMotionsOf 18 = .ok (.aload_n 2, 1) := by decide +kernel
theorem d_X3_countMotionsOf_19 : decode cX3_countMotionsOf 19 = .ok (.getfield 66, 3) := by decide +kernel
theorem d_X3_countMotionsOf_22 : decode cX3_countMotionsOf 22 = .ok (.iload_n 3, 1) := by decide +kernel
theorem d_X3_countMotionsOf_23 : decode cX3_countMotionsOf 23 = .ok (.iaload, 1) := by decide +kernel
theorem d_X3_countMotionsOf_24 : decode cX3_countMotionsOf 24 = .ok (.iload_n 1, 1) := by decide +kernel
theorem d_X3_countMotionsOf_25 : decode cX3_countMotionsOf 25 = .ok (.if_icmp .ne 72, 3) := by decide +kernel
theorem d_X3_countMotionsOf_28 : decode cX3_countMotionsOf 28 = .ok (.iconst 0, 1) := by decide +kernel
theorem d_X3_countMotionsOf_29 : decode cX3_countMotionsOf 29 = .ok (.istore 4, 2) := by decide +kernel
theorem d_X3_countMotionsOf_31 : decode cX3_countMotionsOf 31 = .ok (.iload 4, 2) := by decide +kernel
theorem d_X3_countMotionsOf_33 : decode cX3_countMotionsOf 33 = .ok (.iconst 3, 1) := by decide +kernel
theorem d_X3_countMotionsOf_34 : decode cX3_countMotionsOf 34 = .ok (.if_icmp .ge 63, 3) := by decide +kernel
theorem d_X3_countMotionsOf_37 : decode cX3_countMotionsOf 37 = .ok (.aload_n 0, 1) := by decide +kernel
theorem d_X3_countMotionsOf_38 : decode cX3_countMotionsOf 38 = .ok (.getfield 25, 3) := by decide +kernel
theorem d_X3_countMotionsOf_41 : decode cX3_countMotionsOf 41 = .ok (.iload_n 3, 1) := by decide +kernel
theorem d_X3_countMotionsOf_42 : decode cX3_countMotionsOf 42 = .ok (.iload 4, 2) := by decide +kernel
theorem d_X3_countMotionsOf_44 : decode cX3_countMotionsOf 44 = .ok (.iconst 0, 1) := by decide +kernel
theorem d_X3_countMotionsOf_45 : decode cX3_countMotionsOf 45 = .ok (.invokestatic 69, 3) := by decide +kernel
theorem d_X3_countMotionsOf_48 : decode cX3_countMotionsOf 48 = .ok (.aload_n 0, 1) := by decide +kernel
theorem d_X3_countMotionsOf_49 : decode cX3_countMotionsOf 49 = .ok (.getfield 12, 3) := by decide +kernel
theorem d_X3_countMotionsOf_52 : decode cX3_countMotionsOf 52 = .ok (.aload_n 2, 1) := by decide +kernel
theorem d_X3_countMotionsOf_53 : decode cX3_countMotionsOf 53 = .ok (.getfield 73, 3) := by decide +kernel
theorem d_X3_countMotionsOf_56 : decode cX3_countMotionsOf 56 = .ok (.iload_n 3, 1) := by decide +kernel
theorem d_X3_countMotionsOf_57 : decode cX3_countMotionsOf 57 = .ok (.iaload, 1) := by decide +kernel
theorem d_X3_countMotionsOf_58 : decode cX3_countMotionsOf 58 = .ok (.iload 4, 2) := by decide +kernel
theorem d_X3_countMotionsOf_60 : decode cX3_countMotionsOf 60 = .ok (.invokevirtual 76, 3) := by decide +kernel
theorem d_X3_countMotionsOf_63 : decode cX3_countMotionsOf 63 = .ok (.iastore, 1) := by decide +kernel
theorem d_X3_countMotionsOf_64 : decode cX3_countMotionsOf 64 = .ok (.aload_n 0, 1) := by decide +kernel
theorem d_X3_countMotionsOf_65 : decode cX3_countMotionsOf 65 = .ok (.getfield 25, 3) := by decide +kernel
theorem d_X3_countMotionsOf_68 : decode cX3_countMotionsOf 68 = .ok (.iload_n 3, 1) := by decide +kernel
theorem d_X3_countMotionsOf_69 : decode cX3_countMotionsOf 69 = .ok (.iload 4, 2) := by decide +kernel
theorem d_X3_countMotionsOf_71 : decode cX3_countMotionsOf 71 = .ok (.iconst 1, 1) := by decide +kernel
theorem d_X3_countMotionsOf_72 : decode cX3_countMotionsOf 72 = .ok (.invokestatic 69, 3) := by decide +kernel
theorem d_X3_countMotionsOf_75 : decode cX3_countMotionsOf 75 = .ok (.aload_n 0, 1) := by decide +kernel
theorem d_X3_countMotionsOf_76 : decode cX3_countMotionsOf 76 = .ok (.getfield 12, 3) := by decide +kernel
theorem d_X3_countMotionsOf_79 : decode cX3_countMotionsOf 79 = .ok (.aload_n 2, 1) := by decide +kernel
theorem d_X3_countMotionsOf_80 : decode cX3_countMotionsOf 80 = .ok (.getfield 80, 3) := by decide +kernel
theorem d_X3_countMotionsOf_83 : decode cX3_countMotionsOf 83 = .ok (.iload_n 3, 1) := by decide +kernel
theorem d_X3_countMotionsOf_84 : decode cX3_countMotionsOf 84 = .ok (.iaload, 1) := by decide +kernel
theorem d_X3_countMotionsOf_85 : decode cX3_countMotionsOf 85 = .ok (.iload 4, 2) := by decide +kernel
theorem d_X3_countMotionsOf_87 : decode cX3_countMotionsOf 87 = .ok (.invokevirtual 76, 3) := by decide +kernel
theorem d_X3_countMotionsOf_90 : decode cX3_countMotionsOf 90 = .ok (.iastore, 1) := by decide +kernel
theorem d_X3_countMotionsOf_91 : decode cX3_countMotionsOf 91 = .ok (.iinc 4 1, 3) := by decide +kernel
theorem d_X3_countMotionsOf_94 : decode cX3_countMotionsOf 94 = .ok (.goto (-63), 3) := by decide +kernel
theorem d_X3_countMotionsOf_97 : decode cX3_countMotionsOf 97 = .ok (.iinc 3 1, 3) := by decide +kernel
theorem d_X3_countMotionsOf_100 : decode cX3_countMotionsOf 100 = .ok (.goto (-90), 3) := by decide +kernel
theorem d_X3_countMotionsOf_103 : decode cX3_countMotionsOf 103 = .ok (.return_, 1) := by decide +kernel
set_option maxRecDepth 100000 in
theorem L_X3_countMotionsOf {p : Program} {l : Launch} {e : Env} {s : State} {m : MethodId} {args : Array Value} {below : List Frame} {meth : Method} {c : Code} {D : va_G} {ca : Nat → ClassId} {ad sx sy : Nat → Nat} {A : Nat → Prop} {Q : QT} (C0 : CX p s m args meth c cX3_countMotionsOf 5 yX3_countMotionsOf.cls D ca ad A) (hE : EX sx sy A s s.heap) (hr : meth.sig.returnType = none) (hno : ∀ x ∈ c.exceptionTable.toList, False) : R_X3_countMotionsOf (JW p l e { frames := 12, cells := 0, slots := 6 * 0, locals := 246 } s m args below meth c 5 D ca ad A (vx_MQ below (Qn D ca ad A Q) (Qx D ca ad A Q) args s 0 (6 * 0) A) gz gz true) Q := ⟨s_aln C0 (d_X3_countMotionsOf_0) hgz (s_gr C0 (j := 0) (c0 := 3) rfl gX3 (by decide) rfl rfl wg269 (d_X3_countMotionsOf_1) hgz (s_gmN C0 (j := 0) (c0 := 8) rfl gX8 (by decide) rfl rfl wn237 (d_X3_countMotionsOf_4) hgz (s_asn C0 (d_X3_countMotionsOf_7) hgz (s_ic C0 (d_X3_countMotionsOf_8) hgz (s_isn C0 (d_X3_countMotionsOf_9) hgz (fun _ _ _ h => h)) (okn rfl))))),
  s_iln C0 (d_X3_countMotionsOf_10) hgz (s_aln C0 (d_X3_countMotionsOf_11) hgz (s_giN C0 (j := 10) (c0 := 6) rfl gX6 (by decide) rfl (by decide) wn116 (d_X3_countMotionsOf_12) hgz (s_cge C0 (d_X3_countMotionsOf_15) (by decide) hgz hgz (fun _ _ _ h => h) (s_aln C0 (d_X3_countMotionsOf_18) hgz (s_grN C0 (j := 11) (c0 := 6) rfl gX6 (by decide) rfl rfl wn120 (d_X3_countMotionsOf_19) hgz (s_iln C0 (d_X3_countMotionsOf_22) hgz (s_ia C0 (d_X3_countMotionsOf_23) hgz (s_iln C0 (d_X3_countMotionsOf_24) hgz (s_cne C0 (d_X3_countMotionsOf_25) (by decide) hgz hgz (fun _ _ _ h => h) (s_ic C0 (d_X3_countMotionsOf_28) hgz (s_is C0 (d_X3_countMotionsOf_29) hgz (fun _ _ _ h => h)) (okn rfl))))))))))),
  s_il C0 (d_X3_countMotionsOf_31) hgz (s_ic C0 (d_X3_countMotionsOf_33) hgz (s_cge C0 (d_X3_countMotionsOf_34) (by decide) hgz hgz (fun _ _ _ h => h) (s_aln C0 (d_X3_countMotionsOf_37) hgz (s_gr C0 (j := 3) (c0 := 3) rfl gX3 (by decide) rfl rfl wg273 (d_X3_countMotionsOf_38) hgz (s_iln C0 (d_X3_countMotionsOf_41) hgz (s_il C0 (d_X3_countMotionsOf_42) hgz (s_ic C0 (d_X3_countMotionsOf_44) hgz (s_callS C0 hE (c_X3_placeOf l) wg913 wg911 wg912 wg6 ⟨by decide, by decide⟩ (by decide +kernel) ⟨by decide, by decide⟩ ⟨by decide, by decide⟩ (d_X3_countMotionsOf_45) (fun x hx => (hno x hx).elim) ⟨by decide, by decide⟩ ⟨by decide, by decide⟩ (s_aln C0 (d_X3_countMotionsOf_48) hgz (s_gr C0 (j := 0) (c0 := 3) rfl gX3 (by decide) rfl rfl wg269 (d_X3_countMotionsOf_49) hgz (s_aln C0 (d_X3_countMotionsOf_52) hgz (s_grN C0 (j := 12) (c0 := 6) rfl gX6 (by decide) rfl rfl wn126 (d_X3_countMotionsOf_53) hgz (s_iln C0 (d_X3_countMotionsOf_56) hgz (s_ia C0 (d_X3_countMotionsOf_57) hgz (s_il C0 (d_X3_countMotionsOf_58) hgz (s_callVN C0 hE (c_X8_countOf l) wg917 wn914 wg916 ws53 wg7 ⟨by decide, by decide⟩ (by decide +kernel) (c0 := 8) rfl ⟨by decide, by decide⟩ ⟨by decide, by decide⟩ (d_X3_countMotionsOf_60) (fun x hx => (hno x hx).elim) ⟨by decide, by decide⟩ ⟨by decide, by decide⟩ (s_iax C0 (d_X3_countMotionsOf_63) hgz (s_aln C0 (d_X3_countMotionsOf_64) hgz (s_gr C0 (j := 3) (c0 := 3) rfl gX3 (by decide) rfl rfl wg273 (d_X3_countMotionsOf_65) hgz (s_iln C0 (d_X3_countMotionsOf_68) hgz (s_il C0 (d_X3_countMotionsOf_69) hgz (s_ic C0 (d_X3_countMotionsOf_71) hgz (s_callS C0 hE (c_X3_placeOf l) wg913 wg911 wg912 wg6 ⟨by decide, by decide⟩ (by decide +kernel) ⟨by decide, by decide⟩ ⟨by decide, by decide⟩ (d_X3_countMotionsOf_72) (fun x hx => (hno x hx).elim) ⟨by decide, by decide⟩ ⟨by decide, by decide⟩ (s_aln C0 (d_X3_countMotionsOf_75) hgz (s_gr C0 (j := 0) (c0 := 3) rfl gX3 (by decide) rfl rfl wg269 (d_X3_countMotionsOf_76) hgz (s_aln C0 (d_X3_countMotionsOf_79) hgz (s_grN C0 (j := 13) (c0 := 6) rfl gX6 (by decide) rfl rfl wn129 (d_X3_countMotionsOf_80) hgz (s_iln C0 (d_X3_countMotionsOf_83) hgz (s_ia C0 (d_X3_countMotionsOf_84) hgz (s_il C0 (d_X3_countMotionsOf_85) hgz (s_callVN C0 hE (c_X8_countOf l) wg917 wn914 wg916 ws53 wg7 ⟨by decide, by decide⟩ (by decide +kernel) (c0 := 8) rfl ⟨by decide, by decide⟩ ⟨by decide, by decide⟩ (d_X3_countMotionsOf_87) (fun x hx => (hno x hx).elim) ⟨by decide, by decide⟩ ⟨by decide, by decide⟩ (s_iax C0 (d_X3_countMotionsOf_90) hgz (s_inc C0 (d_X3_countMotionsOf_91) hgz (s_goto C0 (tgt := 31) (d_X3_countMotionsOf_94) (by decide) hgz (fun _ _ _ h => h))))))))))))) (okn rfl)))))))))))))))) (okn rfl))))))) (okn rfl)),
  s_inc C0 (d_X3_countMotionsOf_97) hgz (s_goto C0 (tgt := 10) (d_X3_countMotionsOf_100) (by decide) hgz (fun _ _ _ h => h)),
  s_rv C0 hr (d_X3_countMotionsOf_103) ⟨by decide, by decide⟩⟩
theorem c_X3_countMotionsOf (l : Launch) : Ctr l yX3_countMotionsOf cX3_countMotionsOf 5 none 12 246 0 (fun sx => (nf G_X3_countMotionsOf)) := ctr_of (by decide) gz gz ⟨rfl, rfl⟩ (fun p e s m args below meth c D ca ad sx sy A Q as M C0 hE hr hno hF => P_X3_countMotionsOf (L_X3_countMotionsOf C0 hE hr hno) hF)
theorem d_X3_counted_0 : decode cX3_counted 0 = .ok (.iload_n 1, 1) := by decide +kernel
theorem d_X3_counted_1 : decode cX3_counted 1 = .ok (.iload_n 2, 1) := by decide +kernel
theorem d_X3_counted_2 : decode cX3_counted 2 = .ok (.iload_n 3, 1) := by decide +kernel
theorem d_X3_counted_3 : decode cX3_counted 3 = .ok (.invokestatic 69, 3) := by decide +kernel
theorem d_X3_counted_6 : decode cX3_counted 6 = .ok (.istore 4, 2) := by decide +kernel
theorem d_X3_counted_8 : decode cX3_counted 8 = .ok (.iload 4, 2) := by decide +kernel
theorem d_X3_counted_10 : decode cX3_counted 10 = .ok (.ifCond .lt 23, 3) := by decide +kernel
theorem d_X3_counted_13 : decode cX3_counted 13 = .ok (.iload 4, 2) := by decide +kernel
theorem d_X3_counted_15 : decode cX3_counted 15 = .ok (.aload_n 0, 1) := by decide +kernel
theorem d_X3_counted_16 : decode cX3_counted 16 = .ok (.getfield 25, 3) := by decide +kernel
theorem d_X3_counted_19 : decode cX3_counted 19 = .ok (.arraylength, 1) := by decide +kernel
theorem d_X3_counted_20 : decode cX3_counted 20 = .ok (.if_icmp .ge 13, 3) := by decide +kernel
theorem d_X3_counted_23 : decode cX3_counted 23 = .ok (.aload_n 0, 1) := by decide +kernel
theorem d_X3_counted_24 : decode cX3_counted 24 = .ok (.getfield 25, 3) := by decide +kernel
theorem d_X3_counted_27 : decode cX3_counted 27 = .ok (.iload 4, 2) := by decide +kernel
theorem d_X3_counted_29 : decode cX3_counted 29 = .ok (.iaload, 1) := by decide +kernel
theorem d_X3_counted_30 : decode cX3_counted 30 = .ok (.goto 4, 3) := by decide +kernel
theorem d_X3_counted_33 : decode cX3_counted 33 = .ok (.iconst 0, 1) := by decide +kernel
theorem d_X3_counted_34 : decode cX3_counted 34 = .ok (.ireturn, 1) := by decide +kernel
set_option maxRecDepth 100000 in
theorem L_X3_counted {p : Program} {l : Launch} {e : Env} {s : State} {m : MethodId} {args : Array Value} {below : List Frame} {meth : Method} {c : Code} {D : va_G} {ca : Nat → ClassId} {ad sx sy : Nat → Nat} {A : Nat → Prop} {Q : QT} (C0 : CX p s m args meth c cX3_counted 5 yX3_counted.cls D ca ad A) (hE : EX sx sy A s s.heap) (hr : meth.sig.returnType = (some .int)) (hno : ∀ x ∈ c.exceptionTable.toList, False) : R_X3_counted (JW p l e { frames := 11, cells := 0, slots := 6 * 0, locals := 222 } s m args below meth c 5 D ca ad A (vx_MQ below (Qn D ca ad A Q) (Qx D ca ad A Q) args s 0 (6 * 0) A) gz gz true) Q := ⟨s_iln C0 (d_X3_counted_0) hgz (s_iln C0 (d_X3_counted_1) hgz (s_iln C0 (d_X3_counted_2) hgz (s_callS C0 hE (c_X3_placeOf l) wg913 wg911 wg912 wg6 ⟨by decide, by decide⟩ (by decide +kernel) ⟨by decide, by decide⟩ ⟨by decide, by decide⟩ (d_X3_counted_3) (fun x hx => (hno x hx).elim) ⟨by decide, by decide⟩ ⟨by decide, by decide⟩ (s_is C0 (d_X3_counted_6) hgz (s_il C0 (d_X3_counted_8) hgz (s_zlt C0 (d_X3_counted_10) (by decide) hgz hgz (fun _ _ _ h => h) (s_il C0 (d_X3_counted_13) hgz (s_aln C0 (d_X3_counted_15) hgz (s_gr C0 (j := 3) (c0 := 3) rfl gX3 (by decide) rfl rfl wg273 (d_X3_counted_16) hgz (s_len C0 (d_X3_counted_19) hgz (s_cge C0 (d_X3_counted_20) (by decide) hgz hgz (fun _ _ _ h => h) (s_aln C0 (d_X3_counted_23) hgz (s_gr C0 (j := 3) (c0 := 3) rfl gX3 (by decide) rfl rfl wg273 (d_X3_counted_24) hgz (s_il C0 (d_X3_counted_27) hgz (s_ia C0 (d_X3_counted_29) hgz (s_goto C0 (tgt := 34) (d_X3_counted_30) (by decide) hgz (fun _ _ _ h => h))))))))))))))))),
  s_ic C0 (d_X3_counted_33) hgz (fun _ _ _ h => h) (okn rfl),
  s_ri C0 hr (d_X3_counted_34) ⟨by decide, by decide⟩⟩
theorem c_X3_counted (l : Launch) : Ctr l yX3_counted cX3_counted 5 (some .int) 11 222 0 (fun sx => (nf G_X3_counted)) := ctr_of (by decide) gz gz ⟨rfl, rfl⟩ (fun p e s m args below meth c D ca ad sx sy A Q as M C0 hE hr hno hF => P_X3_counted (L_X3_counted C0 hE hr hno) hF)
theorem wg271 : Cond.fieldLink "WeighedHall$Chronicle" 18 "WeighedHall$Chronicle" "holders" "[I" ∈ GT := gt_mem 391 (by decide +kernel) rfl
theorem d_X3_holderOf_0 : decode cX3_holderOf 0 = .ok (.iload_n 2, 1) := by decide +kernel
theorem d_X3_holderOf_1 : decode cX3_holderOf 1 = .ok (.bipush 14, 2) := by decide +kernel
theorem d_X3_holderOf_3 : decode cX3_holderOf 3 = .ok (.imul, 1) := by decide +kernel
theorem d_X3_holderOf_4 : decode cX3_holderOf 4 = .ok (.iload_n 1, 1) := by decide +kernel
theorem d_X3_holderOf_5 : decode cX3_holderOf 5 = .ok (.iadd, 1) := by decide +kernel
theorem d_X3_holderOf_6 : decode cX3_holderOf 6 = .ok (.istore_n 3, 1) := by decide +kernel
theorem d_X3_holderOf_7 : decode cX3_holderOf 7 = .ok (.iload_n 3, 1) := by decide +kernel
theorem d_X3_holderOf_8 : decode cX3_holderOf 8 = .ok (.ifCond .lt 21, 3) := by decide +kernel
theorem d_X3_holderOf_11 : decode cX3_holderOf 11 = .ok (.iload_n 3, 1) := by decide +kernel
theorem d_X3_holderOf_12 : decode cX3_holderOf 12 = .ok (.aload_n 0, 1) := by decide +kernel
theorem d_X3_holderOf_13 : decode cX3_holderOf 13 = .ok (.getfield 18, 3) := by decide +kernel
theorem d_X3_holderOf_16 : decode cX3_holderOf 16 = .ok (.arraylength, 1) := by decide +kernel
theorem d_X3_holderOf_17 : decode cX3_holderOf 17 = .ok (.if_icmp .ge 12, 3) := by decide +kernel
theorem d_X3_holderOf_20 : decode cX3_holderOf 20 = .ok (.aload_n 0, 1) := by decide +kernel
theorem d_X3_holderOf_21 : decode cX3_holderOf 21 = .ok (.getfield 18, 3) := by decide +kernel
theorem d_X3_holderOf_24 : decode cX3_holderOf 24 = .ok (.iload_n 3, 1) := by decide +kernel
theorem d_X3_holderOf_25 : decode cX3_holderOf 25 = .ok (.iaload, 1) := by decide +kernel
theorem d_X3_holderOf_26 : decode cX3_holderOf 26 = .ok (.goto 5, 3) := by decide +kernel
theorem d_X3_holderOf_29 : decode cX3_holderOf 29 = .ok (.bipush (-2), 2) := by decide +kernel
theorem d_X3_holderOf_31 : decode cX3_holderOf 31 = .ok (.ireturn, 1) := by decide +kernel
set_option maxRecDepth 100000 in
theorem L_X3_holderOf {p : Program} {l : Launch} {e : Env} {s : State} {m : MethodId} {args : Array Value} {below : List Frame} {meth : Method} {c : Code} {D : va_G} {ca : Nat → ClassId} {ad sx sy : Nat → Nat} {A : Nat → Prop} {Q : QT} (C0 : CX p s m args meth c cX3_holderOf 4 yX3_holderOf.cls D ca ad A) (hE : EX sx sy A s s.heap) (hr : meth.sig.returnType = (some .int)) (hno : ∀ x ∈ c.exceptionTable.toList, False) : R_X3_holderOf (JW p l e { frames := 10, cells := 0, slots := 6 * 0, locals := 200 } s m args below meth c 4 D ca ad A (vx_MQ below (Qn D ca ad A Q) (Qx D ca ad A Q) args s 0 (6 * 0) A) gz gz true) Q := ⟨s_iln C0 (d_X3_holderOf_0) hgz (s_bi C0 (d_X3_holderOf_1) hgz (s_mul C0 (d_X3_holderOf_3) hgz (s_iln C0 (d_X3_holderOf_4) hgz (s_add C0 (d_X3_holderOf_5) hgz (s_isn C0 (d_X3_holderOf_6) hgz (s_iln C0 (d_X3_holderOf_7) hgz (s_zlt C0 (d_X3_holderOf_8) (by decide) hgz hgz (fun _ _ _ h => h) (s_iln C0 (d_X3_holderOf_11) hgz (s_aln C0 (d_X3_holderOf_12) hgz (s_gr C0 (j := 1) (c0 := 3) rfl gX3 (by decide) rfl rfl wg271 (d_X3_holderOf_13) hgz (s_len C0 (d_X3_holderOf_16) hgz (s_cge C0 (d_X3_holderOf_17) (by decide) hgz hgz (fun _ _ _ h => h) (s_aln C0 (d_X3_holderOf_20) hgz (s_gr C0 (j := 1) (c0 := 3) rfl gX3 (by decide) rfl rfl wg271 (d_X3_holderOf_21) hgz (s_iln C0 (d_X3_holderOf_24) hgz (s_ia C0 (d_X3_holderOf_25) hgz (s_goto C0 (tgt := 31) (d_X3_holderOf_26) (by decide) hgz (fun _ _ _ h => h))))))))))))))))) (okn rfl) rfl),
  s_bi C0 (d_X3_holderOf_29) hgz (fun _ _ _ h => h) (okn rfl) rfl,
  s_ri C0 hr (d_X3_holderOf_31) ⟨by decide, by decide⟩⟩
theorem c_X3_holderOf (l : Launch) : Ctr l yX3_holderOf cX3_holderOf 4 (some .int) 10 200 0 (fun sx => (nf G_X3_holderOf)) := ctr_of (by decide) gz gz ⟨rfl, rfl⟩ (fun p e s m args below meth c D ca ad sx sy A Q as M C0 hE hr hno hF => P_X3_holderOf (L_X3_holderOf C0 hE hr hno) hF)
theorem wg980 : Cond.code ⟨"WeighedHall$Chronicle", "counted", "(III)I"⟩ prog_5_method_5_code 5 (Option.some .int) ∈ GT := gt_mem 1100 (by decide +kernel) rfl
theorem wg977 : Cond.methodLink "WeighedHall$Chronicle" 83 ⟨"WeighedHall$Chronicle", "counted", "(III)I"⟩ ∈ GT := gt_mem 1097 (by decide +kernel) rfl
theorem wg979 : Cond.instanceMethod ⟨"WeighedHall$Chronicle", "counted", "(III)I"⟩ ∈ GT := gt_mem 1099 (by decide +kernel) rfl
theorem ws59 : Cond.selects "WeighedHall$Chronicle" ⟨"WeighedHall$Chronicle", "counted", "(III)I"⟩ ⟨"WeighedHall$Chronicle", "counted", "(III)I"⟩ ∈ GT := gt_mem 59 (by decide +kernel) rfl
theorem d_X3_isPassed_0 : decode cX3_isPassed 0 = .ok (.aload_n 0, 1) := by decide +kernel
theorem d_X3_isPassed_1 : decode cX3_isPassed 1 = .ok (.iload_n 1, 1) := by decide +kernel
theorem d_X3_isPassed_2 : decode cX3_isPassed 2 = .ok (.iload_n 2, 1) := by decide +kernel
theorem d_X3_isPassed_3 : decode cX3_isPassed 3 = .ok (.iconst 0, 1) := by decide +kernel
theorem d_X3_isPassed_4 : decode cX3_isPassed 4 = .ok (.invokevirtual 83, 3) := by decide +kernel
theorem d_X3_isPassed_7 : decode cX3_isPassed 7 = .ok (.aload_n 0, 1) := by decide +kernel
theorem d_X3_isPassed_8 : decode cX3_isPassed 8 = .ok (.iload_n 1, 1) := by decide +kernel
theorem d_X3_isPassed_9 : decode cX3_isPassed 9 = .ok (.iload_n 2, 1) := by decide +kernel
theorem d_X3_isPassed_10 : decode cX3_isPassed 10 = .ok (.iconst 1, 1) := by decide +kernel
theorem d_X3_isPassed_11 : decode cX3_isPassed 11 = .ok (.invokevirtual 83, 3) := by decide +kernel
theorem d_X3_isPassed_14 : decode cX3_isPassed 14 = .ok (.if_icmp .le 7, 3) := by decide +kernel
theorem d_X3_isPassed_17 : decode cX3_isPassed 17 = .ok (.iconst 1, 1) := by decide +kernel
theorem d_X3_isPassed_18 : decode cX3_isPassed 18 = .ok (.goto 4, 3) := by decide +kernel
theorem d_X3_isPassed_21 : decode cX3_isPassed 21 = .ok (.iconst 0, 1) := by decide +kernel
theorem d_X3_isPassed_22 : decode cX3_isPassed 22 = .ok (.ireturn, 1) := by decide +kernel
set_option maxRecDepth 100000 in
theorem L_X3_isPassed {p : Program} {l : Launch} {e : Env} {s : State} {m : MethodId} {args : Array Value} {below : List Frame} {meth : Method} {c : Code} {D : va_G} {ca : Nat → ClassId} {ad sx sy : Nat → Nat} {A : Nat → Prop} {Q : QT} (C0 : CX p s m args meth c cX3_isPassed 3 yX3_isPassed.cls D ca ad A) (hE : EX sx sy A s s.heap) (hr : meth.sig.returnType = (some .boolean)) (hno : ∀ x ∈ c.exceptionTable.toList, False) : R_X3_isPassed (JW p l e { frames := 12, cells := 0, slots := 6 * 0, locals := 246 } s m args below meth c 3 D ca ad A (vx_MQ below (Qn D ca ad A Q) (Qx D ca ad A Q) args s 0 (6 * 0) A) gz gz true) Q := ⟨s_aln C0 (d_X3_isPassed_0) hgz (s_iln C0 (d_X3_isPassed_1) hgz (s_iln C0 (d_X3_isPassed_2) hgz (s_ic C0 (d_X3_isPassed_3) hgz (s_callV C0 hE (c_X3_counted l) wg980 wg977 wg979 ws59 wg6 ⟨by decide, by decide⟩ (by decide +kernel) (c0 := 3) rfl ⟨by decide, by decide⟩ ⟨by decide, by decide⟩ (d_X3_isPassed_4) (fun x hx => (hno x hx).elim) ⟨by decide, by decide⟩ ⟨by decide, by decide⟩ (s_aln C0 (d_X3_isPassed_7) hgz (s_iln C0 (d_X3_isPassed_8) hgz (s_iln C0 (d_X3_isPassed_9) hgz (s_ic C0 (d_X3_isPassed_10) hgz (s_callV C0 hE (c_X3_counted l) wg980 wg977 wg979 ws59 wg6 ⟨by decide, by decide⟩ (by decide +kernel) (c0 := 3) rfl ⟨by decide, by decide⟩ ⟨by decide, by decide⟩ (d_X3_isPassed_11) (fun x hx => (hno x hx).elim) ⟨by decide, by decide⟩ ⟨by decide, by decide⟩ (s_cle C0 (d_X3_isPassed_14) (by decide) hgz hgz (fun _ _ _ h => h) (s_ic C0 (d_X3_isPassed_17) hgz (s_goto C0 (tgt := 22) (d_X3_isPassed_18) (by decide) hgz (fun _ _ _ h => h)) (okn rfl)))) (okn rfl)))))) (okn rfl)))),
  s_ic C0 (d_X3_isPassed_21) hgz (fun _ _ _ h => h) (okn rfl),
  s_rz C0 hr (d_X3_isPassed_22) ⟨by decide, by decide⟩⟩
theorem c_X3_isPassed (l : Launch) : Ctr l yX3_isPassed cX3_isPassed 3 (some .boolean) 12 246 0 (fun sx => (nf G_X3_isPassed)) := ctr_of (by decide) gz gz ⟨rfl, rfl⟩ (fun p e s m args below meth c D ca ad sx sy A Q as M C0 hE hr hno hF => P_X3_isPassed (L_X3_isPassed C0 hE hr hno) hF)
theorem wg976 : Cond.code ⟨"WeighedHall$Chronicle", "isPassed", "(II)Z"⟩ prog_5_method_6_code 3 (Option.some .boolean) ∈ GT := gt_mem 1096 (by decide +kernel) rfl
theorem wg993 : Cond.methodLink "WeighedHall$Chronicle" 86 ⟨"WeighedHall$Chronicle", "isPassed", "(II)Z"⟩ ∈ GT := gt_mem 1113 (by decide +kernel) rfl
theorem wg975 : Cond.instanceMethod ⟨"WeighedHall$Chronicle", "isPassed", "(II)Z"⟩ ∈ GT := gt_mem 1095 (by decide +kernel) rfl
theorem ws58 : Cond.selects "WeighedHall$Chronicle" ⟨"WeighedHall$Chronicle", "isPassed", "(II)Z"⟩ ⟨"WeighedHall$Chronicle", "isPassed", "(II)Z"⟩ ∈ GT := gt_mem 58 (by decide +kernel) rfl
theorem d_X3_passedBits_0 : decode cX3_passedBits 0 = .ok (.iconst 0, 1) := by decide +kernel
theorem d_X3_passedBits_1 : decode cX3_passedBits 1 = .ok (.istore_n 2, 1) := by decide +kernel
theorem d_X3_passedBits_2 : decode cX3_passedBits 2 = .ok (.iconst 0, 1) := by decide +kernel
theorem d_X3_passedBits_3 : decode cX3_passedBits 3 = .ok (.istore_n 3, 1) := by decide +kernel
theorem d_X3_passedBits_4 : decode cX3_passedBits 4 = .ok (.iload_n 3, 1) := by decide +kernel
theorem d_X3_passedBits_5 : decode cX3_passedBits 5 = .ok (.aload_n 0, 1) := by decide +kernel
theorem d_X3_passedBits_6 : decode cX3_passedBits 6 = .ok (.getfield 12, 3) := by decide +kernel
theorem d_X3_passedBits_9 : decode cX3_passedBits 9 = .ok (.getfield 56, 3) := by decide +kernel
theorem d_X3_passedBits_12 : decode cX3_passedBits 12 = .ok (.getfield 60, 3) := by decide +kernel
theorem d_X3_passedBits_15 : decode cX3_passedBits 15 = .ok (.if_icmp .ge 24, 3) := by decide +kernel
theorem d_X3_passedBits_18 : decode cX3_passedBits 18 = .ok (.aload_n 0, 1) := by decide +kernel
theorem d_X3_passedBits_19 : decode cX3_passedBits 19 = .ok (.iload_n 3, 1) := by decide +kernel
theorem d_X3_passedBits_20 : decode cX3_passedBits 20 = .ok (.iload_n 1, 1) := by decide +kernel
theorem d_X3_passedBits_21 : decode cX3_passedBits 21 = .ok (.invokevirtual 86, 3) := by decide +kernel
theorem d_X3_passedBits_24 : decode cX3_passedBits 24 = .ok (.ifCond .eq 9, 3) := by decide +kernel
theorem d_X3_passedBits_27 : decode cX3_passedBits 27 = .ok (.iload_n 2, 1) := by decide +kernel
theorem d_X3_passedBits_28 : decode cX3_passedBits 28 = .ok (.iconst 1, 1) := by decide +kernel
theorem d_X3_passedBits_29 : decode cX3_passedBits 29 = .ok (.iload_n 3, 1) := by decide +kernel
theorem d_X3_passedBits_30 : decode cX3_passedBits 30 = .ok (.ishl, 1) := by decide +kernel
theorem d_X3_passedBits_31 : decode cX3_passedBits 31 = .ok (.ior, 1) := by decide +kernel
theorem d_X3_passedBits_32 : decode cX3_passedBits 32 = .ok (.istore_n 2, 1) := by decide +kernel
theorem d_X3_passedBits_33 : decode cX3_passedBits 33 = .ok (.iinc 3 1, 3) := by decide +kernel
theorem d_X3_passedBits_36 : decode cX3_passedBits 36 = .ok (.goto (-32), 3) := by decide +kernel
theorem d_X3_passedBits_39 : decode cX3_passedBits 39 = .ok (.iload_n 2, 1) := by decide +kernel
theorem d_X3_passedBits_40 : decode cX3_passedBits 40 = .ok (.ireturn, 1) := by decide +kernel
set_option maxRecDepth 100000 in
theorem L_X3_passedBits {p : Program} {l : Launch} {e : Env} {s : State} {m : MethodId} {args : Array Value} {below : List Frame} {meth : Method} {c : Code} {D : va_G} {ca : Nat → ClassId} {ad sx sy : Nat → Nat} {A : Nat → Prop} {Q : QT} (C0 : CX p s m args meth c cX3_passedBits 4 yX3_passedBits.cls D ca ad A) (hE : EX sx sy A s s.heap) (hr : meth.sig.returnType = (some .int)) (hno : ∀ x ∈ c.exceptionTable.toList, False) : R_X3_passedBits (JW p l e { frames := 13, cells := 0, slots := 6 * 0, locals := 268 } s m args below meth c 4 D ca ad A (vx_MQ below (Qn D ca ad A Q) (Qx D ca ad A Q) args s 0 (6 * 0) A) gz gz true) Q := ⟨s_ic C0 (d_X3_passedBits_0) hgz (s_isn C0 (d_X3_passedBits_1) hgz (s_ic C0 (d_X3_passedBits_2) hgz (s_isn C0 (d_X3_passedBits_3) hgz (fun _ _ _ h => h)) (okn rfl))) (okn rfl),
  s_iln C0 (d_X3_passedBits_4) hgz (s_aln C0 (d_X3_passedBits_5) hgz (s_gr C0 (j := 0) (c0 := 3) rfl gX3 (by decide) rfl rfl wg269 (d_X3_passedBits_6) hgz (s_gmN C0 (j := 0) (c0 := 8) rfl gX8 (by decide) rfl rfl wn237 (d_X3_passedBits_9) hgz (s_giN C0 (j := 10) (c0 := 6) rfl gX6 (by decide) rfl (by decide) wn116 (d_X3_passedBits_12) hgz (s_cge C0 (d_X3_passedBits_15) (by decide) hgz hgz (fun _ _ _ h => h) (s_aln C0 (d_X3_passedBits_18) hgz (s_iln C0 (d_X3_passedBits_19) hgz (s_iln C0 (d_X3_passedBits_20) hgz (s_callV C0 hE (c_X3_isPassed l) wg976 wg993 wg975 ws58 wg6 ⟨by decide, by decide⟩ (by decide +kernel) (c0 := 3) rfl ⟨by decide, by decide⟩ ⟨by decide, by decide⟩ (d_X3_passedBits_21) (fun x hx => (hno x hx).elim) ⟨by decide, by decide⟩ ⟨by decide, by decide⟩ (s_zeq C0 (d_X3_passedBits_24) (by decide) hgz hgz (fun _ _ _ h => h) (s_iln C0 (d_X3_passedBits_27) hgz (s_ic C0 (d_X3_passedBits_28) hgz (s_iln C0 (d_X3_passedBits_29) hgz (s_shl C0 (d_X3_passedBits_30) hgz (s_or C0 (d_X3_passedBits_31) hgz (s_isn C0 (d_X3_passedBits_32) hgz (fun _ _ _ h => h))))) (okn rfl))))))))))))),
  s_inc C0 (d_X3_passedBits_33) hgz (s_goto C0 (tgt := 4) (d_X3_passedBits_36) (by decide) hgz (fun _ _ _ h => h)),
  s_iln C0 (d_X3_passedBits_39) hgz (s_ri C0 hr (d_X3_passedBits_40) ⟨by decide, by decide⟩)⟩
theorem c_X3_passedBits (l : Launch) : Ctr l yX3_passedBits cX3_passedBits 4 (some .int) 13 268 0 (fun sx => (nf G_X3_passedBits)) := ctr_of (by decide) gz gz ⟨rfl, rfl⟩ (fun p e s m args below meth c D ca ad sx sy A Q as M C0 hE hr hno hF => P_X3_passedBits (L_X3_passedBits C0 hE hr hno) hF)
theorem wn104 : Cond.fieldLinkNest "WeighedHall$Chronicle" 96 "WeighedHall$Plan" "weight" "[I" "WeighedHall" ∈ NT := nt_mem 104 (by decide +kernel) rfl
theorem wg935 : Cond.code ⟨"WeighedHall$Chronicle", "holderOf", "(II)I"⟩ prog_5_method_8_code 4 (Option.some .int) ∈ GT := gt_mem 1055 (by decide +kernel) rfl
theorem wg947 : Cond.methodLink "WeighedHall$Chronicle" 93 ⟨"WeighedHall$Chronicle", "holderOf", "(II)I"⟩ ∈ GT := gt_mem 1067 (by decide +kernel) rfl
theorem wg934 : Cond.instanceMethod ⟨"WeighedHall$Chronicle", "holderOf", "(II)I"⟩ ∈ GT := gt_mem 1054 (by decide +kernel) rfl
theorem ws54 : Cond.selects "WeighedHall$Chronicle" ⟨"WeighedHall$Chronicle", "holderOf", "(II)I"⟩ ⟨"WeighedHall$Chronicle", "holderOf", "(II)I"⟩ ∈ GT := gt_mem 54 (by decide +kernel) rfl
theorem wn91 : Cond.fieldLinkNest "WeighedHall$Chronicle" 90 "WeighedHall$Plan" "things" "I" "WeighedHall" ∈ NT := nt_mem 91 (by decide +kernel) rfl
theorem d_X3_poundsWith_0 : decode cX3_poundsWith 0 = .ok (.aload_n 0, 1) := by decide +kernel
theorem d_X3_poundsWith_1 : decode cX3_poundsWith 1 = .ok (.getfield 12, 3) := by decide +kernel
theorem d_X3_poundsWith_4 : decode cX3_poundsWith 4 = .ok (.getfield 56, 3) := by decide +kernel
theorem d_X3_poundsWith_7 : decode cX3_poundsWith 7 = .ok (.astore_n 3, 1) := by decide +kernel
theorem d_X3_poundsWith_8 : decode cX3_poundsWith 8 = .ok (.iconst 0, 1) := by decide +kernel
theorem d_X3_poundsWith_9 : decode cX3_poundsWith 9 = .ok (.istore 4, 2) := by decide +kernel
theorem d_X3_poundsWith_11 : decode cX3_poundsWith 11 = .ok (.iconst 0, 1) := by decide +kernel
theorem d_X3_poundsWith_12 : decode cX3_poundsWith 12 = .ok (.istore 5, 2) := by decide +kernel
theorem d_X3_poundsWith_14 : decode cX3_poundsWith 14 = .ok (.iload 5, 2) := by decide +kernel
theorem d_X3_poundsWith_16 : decode cX3_poundsWith 16 = .ok (.aload_n 3, 1) := by decide +kernel
theorem d_X3_poundsWith_17 : decode cX3_poundsWith 17 = .ok (.getfield 90, 3) := by decide +kernel
theorem d_X3_poundsWith_20 : decode cX3_poundsWith 20 = .ok (.if_icmp .ge 32, 3) := by decide +kernel
theorem d_X3_poundsWith_23 : decode cX3_poundsWith 23 = .ok (.aload_n 0, 1) := by decide +kernel
theorem d_X3_poundsWith_24 : decode cX3_poundsWith 24 = .ok (.iload 5, 2) := by decide +kernel
theorem d_X3_poundsWith_26 : decode cX3_poundsWith 26 = .ok (.iload_n 2, 1) := by decide +kernel
theorem d_X3_poundsWith_27 : decode cX3_poundsWith 27 = .ok (.invokevirtual 93, 3) := by decide +kernel
theorem d_X3_poundsWith_30 : decode cX3_poundsWith 30 = .ok (.iload_n 1, 1) := by decide +kernel
theorem d_X3_poundsWith_31 : decode cX3_poundsWith 31 = .ok (.if_icmp .ne 15, 3) := by decide +kernel
theorem d_X3_poundsWith_34 : decode cX3_poundsWith 34 = .ok (.iload 4, 2) := by decide +kernel
theorem d_X3_poundsWith_36 : decode cX3_poundsWith 36 = .ok (.aload_n 3, 1) := by decide +kernel
theorem d_X3_poundsWith_37 : decode cX3_poundsWith 37 = .ok (.getfield 96, 3) := by decide +kernel
theorem d_X3_poundsWith_40 : decode cX3_poundsWith 40 = .ok (.iload 5, 2) := by decide +kernel
theorem d_X3_poundsWith_42 : decode cX3_poundsWith 42 = .ok (.iaload, 1) := by decide +kernel
theorem d_X3_poundsWith_43 : decode cX3_poundsWith 43 = .ok (.iadd, 1) := by decide +kernel
theorem d_X3_poundsWith_44 : decode cX3_poundsWith 44 = .ok (.istore 4, 2) := by decide +kernel
theorem d_X3_poundsWith_46 : decode cX3_poundsWith 46 = .ok (.iinc 5 1, 3) := by decide +kernel
theorem d_X3_poundsWith_49 : decode cX3_poundsWith 49 = .ok (.goto (-35), 3) := by decide +kernel
theorem d_X3_poundsWith_52 : decode cX3_poundsWith 52 = .ok (.iload 4, 2) := by decide +kernel
theorem d_X3_poundsWith_54 : decode cX3_poundsWith 54 = .ok (.ireturn, 1) := by decide +kernel
set_option maxRecDepth 100000 in
theorem L_X3_poundsWith {p : Program} {l : Launch} {e : Env} {s : State} {m : MethodId} {args : Array Value} {below : List Frame} {meth : Method} {c : Code} {D : va_G} {ca : Nat → ClassId} {ad sx sy : Nat → Nat} {A : Nat → Prop} {Q : QT} (C0 : CX p s m args meth c cX3_poundsWith 6 yX3_poundsWith.cls D ca ad A) (hE : EX sx sy A s s.heap) (hr : meth.sig.returnType = (some .int)) (hno : ∀ x ∈ c.exceptionTable.toList, False) : R_X3_poundsWith (JW p l e { frames := 11, cells := 0, slots := 6 * 0, locals := 223 } s m args below meth c 6 D ca ad A (vx_MQ below (Qn D ca ad A Q) (Qx D ca ad A Q) args s 0 (6 * 0) A) gz gz true) Q := ⟨s_aln C0 (d_X3_poundsWith_0) hgz (s_gr C0 (j := 0) (c0 := 3) rfl gX3 (by decide) rfl rfl wg269 (d_X3_poundsWith_1) hgz (s_gmN C0 (j := 0) (c0 := 8) rfl gX8 (by decide) rfl rfl wn237 (d_X3_poundsWith_4) hgz (s_asn C0 (d_X3_poundsWith_7) hgz (s_ic C0 (d_X3_poundsWith_8) hgz (s_is C0 (d_X3_poundsWith_9) hgz (s_ic C0 (d_X3_poundsWith_11) hgz (s_is C0 (d_X3_poundsWith_12) hgz (fun _ _ _ h => h)) (okn rfl))) (okn rfl))))),
  s_il C0 (d_X3_poundsWith_14) hgz (s_aln C0 (d_X3_poundsWith_16) hgz (s_giN C0 (j := 3) (c0 := 6) rfl gX6 (by decide) rfl (by decide) wn91 (d_X3_poundsWith_17) hgz (s_cge C0 (d_X3_poundsWith_20) (by decide) hgz hgz (fun _ _ _ h => h) (s_aln C0 (d_X3_poundsWith_23) hgz (s_il C0 (d_X3_poundsWith_24) hgz (s_iln C0 (d_X3_poundsWith_26) hgz (s_callV C0 hE (c_X3_holderOf l) wg935 wg947 wg934 ws54 wg6 ⟨by decide, by decide⟩ (by decide +kernel) (c0 := 3) rfl ⟨by decide, by decide⟩ ⟨by decide, by decide⟩ (d_X3_poundsWith_27) (fun x hx => (hno x hx).elim) ⟨by decide, by decide⟩ ⟨by decide, by decide⟩ (s_iln C0 (d_X3_poundsWith_30) hgz (s_cne C0 (d_X3_poundsWith_31) (by decide) hgz hgz (fun _ _ _ h => h) (s_il C0 (d_X3_poundsWith_34) hgz (s_aln C0 (d_X3_poundsWith_36) hgz (s_grN C0 (j := 5) (c0 := 6) rfl gX6 (by decide) rfl rfl wn104 (d_X3_poundsWith_37) hgz (s_il C0 (d_X3_poundsWith_40) hgz (s_ia C0 (d_X3_poundsWith_42) hgz (s_add C0 (d_X3_poundsWith_43) hgz (s_is C0 (d_X3_poundsWith_44) hgz (fun _ _ _ h => h))))))))))))))))),
  s_inc C0 (d_X3_poundsWith_46) hgz (s_goto C0 (tgt := 14) (d_X3_poundsWith_49) (by decide) hgz (fun _ _ _ h => h)),
  s_il C0 (d_X3_poundsWith_52) hgz (s_ri C0 hr (d_X3_poundsWith_54) ⟨by decide, by decide⟩)⟩
theorem c_X3_poundsWith (l : Launch) : Ctr l yX3_poundsWith cX3_poundsWith 6 (some .int) 11 223 0 (fun sx => (nf G_X3_poundsWith)) := ctr_of (by decide) gz gz ⟨rfl, rfl⟩ (fun p e s m args below meth c D ca ad sx sy A Q as M C0 hE hr hno hF => P_X3_poundsWith (L_X3_poundsWith C0 hE hr hno) hF)
theorem wg272 : Cond.fieldLink "WeighedHall$Chronicle" 22 "WeighedHall$Chronicle" "strengths" "[I" ∈ GT := gt_mem 392 (by decide +kernel) rfl
theorem d_X3_strengthOf_0 : decode cX3_strengthOf 0 = .ok (.iload_n 2, 1) := by decide +kernel
theorem d_X3_strengthOf_1 : decode cX3_strengthOf 1 = .ok (.bipush 10, 2) := by decide +kernel
theorem d_X3_strengthOf_3 : decode cX3_strengthOf 3 = .ok (.imul, 1) := by decide +kernel
theorem d_X3_strengthOf_4 : decode cX3_strengthOf 4 = .ok (.iload_n 1, 1) := by decide +kernel
theorem d_X3_strengthOf_5 : decode cX3_strengthOf 5 = .ok (.iadd, 1) := by decide +kernel
theorem d_X3_strengthOf_6 : decode cX3_strengthOf 6 = .ok (.istore_n 3, 1) := by decide +kernel
theorem d_X3_strengthOf_7 : decode cX3_strengthOf 7 = .ok (.iload_n 3, 1) := by decide +kernel
theorem d_X3_strengthOf_8 : decode cX3_strengthOf 8 = .ok (.ifCond .lt 21, 3) := by decide +kernel
theorem d_X3_strengthOf_11 : decode cX3_strengthOf 11 = .ok (.iload_n 3, 1) := by decide +kernel
theorem d_X3_strengthOf_12 : decode cX3_strengthOf 12 = .ok (.aload_n 0, 1) := by decide +kernel
theorem d_X3_strengthOf_13 : decode cX3_strengthOf 13 = .ok (.getfield 22, 3) := by decide +kernel
theorem d_X3_strengthOf_16 : decode cX3_strengthOf 16 = .ok (.arraylength, 1) := by decide +kernel
theorem d_X3_strengthOf_17 : decode cX3_strengthOf 17 = .ok (.if_icmp .ge 12, 3) := by decide +kernel
theorem d_X3_strengthOf_20 : decode cX3_strengthOf 20 = .ok (.aload_n 0, 1) := by decide +kernel
theorem d_X3_strengthOf_21 : decode cX3_strengthOf 21 = .ok (.getfield 22, 3) := by decide +kernel
theorem d_X3_strengthOf_24 : decode cX3_strengthOf 24 = .ok (.iload_n 3, 1) := by decide +kernel
theorem d_X3_strengthOf_25 : decode cX3_strengthOf 25 = .ok (.iaload, 1) := by decide +kernel
theorem d_X3_strengthOf_26 : decode cX3_strengthOf 26 = .ok (.goto 4, 3) := by decide +kernel
theorem d_X3_strengthOf_29 : decode cX3_strengthOf 29 = .ok (.iconst 0, 1) := by decide +kernel
theorem d_X3_strengthOf_30 : decode cX3_strengthOf 30 = .ok (.ireturn, 1) := by decide +kernel
set_option maxRecDepth 100000 in
theorem L_X3_strengthOf {p : Program} {l : Launch} {e : Env} {s : State} {m : MethodId} {args : Array Value} {below : List Frame} {meth : Method} {c : Code} {D : va_G} {ca : Nat → ClassId} {ad sx sy : Nat → Nat} {A : Nat → Prop} {Q : QT} (C0 : CX p s m args meth c cX3_strengthOf 4 yX3_strengthOf.cls D ca ad A) (hE : EX sx sy A s s.heap) (hr : meth.sig.returnType = (some .int)) (hno : ∀ x ∈ c.exceptionTable.toList, False) : R_X3_strengthOf (JW p l e { frames := 10, cells := 0, slots := 6 * 0, locals := 200 } s m args below meth c 4 D ca ad A (vx_MQ below (Qn D ca ad A Q) (Qx D ca ad A Q) args s 0 (6 * 0) A) gz gz true) Q := ⟨s_iln C0 (d_X3_strengthOf_0) hgz (s_bi C0 (d_X3_strengthOf_1) hgz (s_mul C0 (d_X3_strengthOf_3) hgz (s_iln C0 (d_X3_strengthOf_4) hgz (s_add C0 (d_X3_strengthOf_5) hgz (s_isn C0 (d_X3_strengthOf_6) hgz (s_iln C0 (d_X3_strengthOf_7) hgz (s_zlt C0 (d_X3_strengthOf_8) (by decide) hgz hgz (fun _ _ _ h => h) (s_iln C0 (d_X3_strengthOf_11) hgz (s_aln C0 (d_X3_strengthOf_12) hgz (s_gr C0 (j := 2) (c0 := 3) rfl gX3 (by decide) rfl rfl wg272 (d_X3_strengthOf_13) hgz (s_len C0 (d_X3_strengthOf_16) hgz (s_cge C0 (d_X3_strengthOf_17) (by decide) hgz hgz (fun _ _ _ h => h) (s_aln C0 (d_X3_strengthOf_20) hgz (s_gr C0 (j := 2) (c0 := 3) rfl gX3 (by decide) rfl rfl wg272 (d_X3_strengthOf_21) hgz (s_iln C0 (d_X3_strengthOf_24) hgz (s_ia C0 (d_X3_strengthOf_25) hgz (s_goto C0 (tgt := 30) (d_X3_strengthOf_26) (by decide) hgz (fun _ _ _ h => h))))))))))))))))) (okn rfl) rfl),
  s_ic C0 (d_X3_strengthOf_29) hgz (fun _ _ _ h => h) (okn rfl),
  s_ri C0 hr (d_X3_strengthOf_30) ⟨by decide, by decide⟩⟩
theorem c_X3_strengthOf (l : Launch) : Ctr l yX3_strengthOf cX3_strengthOf 4 (some .int) 10 200 0 (fun sx => (nf G_X3_strengthOf)) := ctr_of (by decide) gz gz ⟨rfl, rfl⟩ (fun p e s m args below meth c D ca ad sx sy A Q as M C0 hE hr hno hF => P_X3_strengthOf (L_X3_strengthOf C0 hE hr hno) hF)
theorem d_X6_allThings_0 : decode cX6_allThings 0 = .ok (.iconst 1, 1) := by decide +kernel
theorem d_X6_allThings_1 : decode cX6_allThings 1 = .ok (.aload_n 0, 1) := by decide +kernel
theorem d_X6_allThings_2 : decode cX6_allThings 2 = .ok (.getfield 46, 3) := by decide +kernel
theorem d_X6_allThings_5 : decode cX6_allThings 5 = .ok (.ishl, 1) := by decide +kernel
theorem d_X6_allThings_6 : decode cX6_allThings 6 = .ok (.iconst 1, 1) := by decide +kernel
theorem d_X6_allThings_7 : decode cX6_allThings 7 = .ok (.isub, 1) := by decide +kernel
theorem d_X6_allThings_8 : decode cX6_allThings 8 = .ok (.ireturn, 1) := by decide +kernel
set_option maxRecDepth 100000 in
theorem L_X6_allThings {p : Program} {l : Launch} {e : Env} {s : State} {m : MethodId} {args : Array Value} {below : List Frame} {meth : Method} {c : Code} {D : va_G} {ca : Nat → ClassId} {ad sx sy : Nat → Nat} {A : Nat → Prop} {Q : QT} (C0 : CX p s m args meth c cX6_allThings 1 yX6_allThings.cls D ca ad A) (hE : EX sx sy A s s.heap) (hr : meth.sig.returnType = (some .int)) (hno : ∀ x ∈ c.exceptionTable.toList, False) : R_X6_allThings (JW p l e { frames := 10, cells := 0, slots := 6 * 0, locals := 200 } s m args below meth c 1 D ca ad A (vx_MQ below (Qn D ca ad A Q) (Qx D ca ad A Q) args s 0 (6 * 0) A) gz gz true) Q := s_ic C0 (d_X6_allThings_0) hgz (s_aln C0 (d_X6_allThings_1) hgz (s_gi C0 (j := 3) (c0 := 6) rfl gX6 (by decide) rfl (by decide) wg84 (d_X6_allThings_2) hgz (s_shl C0 (d_X6_allThings_5) hgz (s_ic C0 (d_X6_allThings_6) hgz (s_sub C0 (d_X6_allThings_7) hgz (s_ri C0 hr (d_X6_allThings_8) ⟨by decide, by decide⟩)) (okn rfl))))) (okn rfl)
theorem c_X6_allThings (l : Launch) : Ctr l yX6_allThings cX6_allThings 1 (some .int) 10 200 0 (fun sx => (nf G_X6_allThings)) := ctr_of (by decide) gz gz ⟨rfl, rfl⟩ (fun p e s m args below meth c D ca ad sx sy A Q as M C0 hE hr hno hF => P_X6_allThings (L_X6_allThings C0 hE hr hno) hF)
theorem wg374 : Cond.fieldLink "WeighedHall$Hollows" 85 "WeighedHall$Hollows" "fewest" "I" ∈ GT := gt_mem 494 (by decide +kernel) rfl
theorem wg1160 : Cond.methodLink "WeighedHall$Hollows" 88 ⟨"java/lang/Integer", "bitCount", "(I)I"⟩ ∈ GT := gt_mem 1280 (by decide +kernel) rfl
theorem d_X4_isFewer_0 : decode cX4_isFewer 0 = .ok (.iload_n 1, 1) := by decide +kernel
theorem d_X4_isFewer_1 : decode cX4_isFewer 1 = .ok (.invokestatic 88, 3) := by decide +kernel
theorem d_X4_isFewer_4 : decode cX4_isFewer 4 = .ok (.istore_n 2, 1) := by decide +kernel
theorem d_X4_isFewer_5 : decode cX4_isFewer 5 = .ok (.aload_n 0, 1) := by decide +kernel
theorem d_X4_isFewer_6 : decode cX4_isFewer 6 = .ok (.getfield 85, 3) := by decide +kernel
theorem d_X4_isFewer_9 : decode cX4_isFewer 9 = .ok (.invokestatic 88, 3) := by decide +kernel
theorem d_X4_isFewer_12 : decode cX4_isFewer 12 = .ok (.istore_n 3, 1) := by decide +kernel
theorem d_X4_isFewer_13 : decode cX4_isFewer 13 = .ok (.iload_n 2, 1) := by decide +kernel
theorem d_X4_isFewer_14 : decode cX4_isFewer 14 = .ok (.iload_n 3, 1) := by decide +kernel
theorem d_X4_isFewer_15 : decode cX4_isFewer 15 = .ok (.if_icmp .lt 16, 3) := by decide +kernel
theorem d_X4_isFewer_18 : decode cX4_isFewer 18 = .ok (.iload_n 2, 1) := by decide +kernel
theorem d_X4_isFewer_19 : decode cX4_isFewer 19 = .ok (.iload_n 3, 1) := by decide +kernel
theorem d_X4_isFewer_20 : decode cX4_isFewer 20 = .ok (.if_icmp .ne 15, 3) := by decide +kernel
theorem d_X4_isFewer_23 : decode cX4_isFewer 23 = .ok (.iload_n 1, 1) := by decide +kernel
theorem d_X4_isFewer_24 : decode cX4_isFewer 24 = .ok (.aload_n 0, 1) := by decide +kernel
theorem d_X4_isFewer_25 : decode cX4_isFewer 25 = .ok (.getfield 85, 3) := by decide +kernel
theorem d_X4_isFewer_28 : decode cX4_isFewer 28 = .ok (.if_icmp .ge 7, 3) := by decide +kernel
theorem d_X4_isFewer_31 : decode cX4_isFewer 31 = .ok (.iconst 1, 1) := by decide +kernel
theorem d_X4_isFewer_32 : decode cX4_isFewer 32 = .ok (.goto 4, 3) := by decide +kernel
theorem d_X4_isFewer_35 : decode cX4_isFewer 35 = .ok (.iconst 0, 1) := by decide +kernel
theorem d_X4_isFewer_36 : decode cX4_isFewer 36 = .ok (.ireturn, 1) := by decide +kernel
set_option maxRecDepth 100000 in
theorem L_X4_isFewer {p : Program} {l : Launch} {e : Env} {s : State} {m : MethodId} {args : Array Value} {below : List Frame} {meth : Method} {c : Code} {D : va_G} {ca : Nat → ClassId} {ad sx sy : Nat → Nat} {A : Nat → Prop} {Q : QT} (C0 : CX p s m args meth c cX4_isFewer 4 yX4_isFewer.cls D ca ad A) (hE : EX sx sy A s s.heap) (hr : meth.sig.returnType = (some .boolean)) (hno : ∀ x ∈ c.exceptionTable.toList, False) : R_X4_isFewer (JW p l e { frames := 11, cells := 0, slots := 6 * 0, locals := 220 } s m args below meth c 4 D ca ad A (vx_MQ below (Qn D ca ad A Q) (Qx D ca ad A Q) args s 0 (6 * 0) A) gz gz true) Q := ⟨s_iln C0 (d_X4_isFewer_0) hgz (s_callS C0 hE (c_J6_bitCount_0f7a4 l) wg481 wg1160 wg480 wg24 ⟨by decide, by decide⟩ (by decide +kernel) ⟨by decide, by decide⟩ ⟨by decide, by decide⟩ (d_X4_isFewer_1) (fun x hx => (hno x hx).elim) ⟨by decide, by decide⟩ ⟨by decide, by decide⟩ (s_isn C0 (d_X4_isFewer_4) hgz (s_aln C0 (d_X4_isFewer_5) hgz (s_gi C0 (j := 4) (c0 := 4) rfl gX4 (by decide) rfl (by decide) wg374 (d_X4_isFewer_6) hgz (s_callS C0 hE (c_J6_bitCount_0f7a4 l) wg481 wg1160 wg480 wg24 ⟨by decide, by decide⟩ (by decide +kernel) ⟨by decide, by decide⟩ ⟨by decide, by decide⟩ (d_X4_isFewer_9) (fun x hx => (hno x hx).elim) ⟨by decide, by decide⟩ ⟨by decide, by decide⟩ (s_isn C0 (d_X4_isFewer_12) hgz (s_iln C0 (d_X4_isFewer_13) hgz (s_iln C0 (d_X4_isFewer_14) hgz (s_clt C0 (d_X4_isFewer_15) (by decide) hgz hgz (fun _ _ _ h => h) (s_iln C0 (d_X4_isFewer_18) hgz (s_iln C0 (d_X4_isFewer_19) hgz (s_cne C0 (d_X4_isFewer_20) (by decide) hgz hgz (fun _ _ _ h => h) (s_iln C0 (d_X4_isFewer_23) hgz (s_aln C0 (d_X4_isFewer_24) hgz (s_gi C0 (j := 4) (c0 := 4) rfl gX4 (by decide) rfl (by decide) wg374 (d_X4_isFewer_25) hgz (s_cge C0 (d_X4_isFewer_28) (by decide) hgz hgz (fun _ _ _ h => h) (fun _ _ _ h => h))))))))))))))))),
  s_ic C0 (d_X4_isFewer_31) hgz (s_goto C0 (tgt := 36) (d_X4_isFewer_32) (by decide) hgz (fun _ _ _ h => h)) (okn rfl),
  s_ic C0 (d_X4_isFewer_35) hgz (fun _ _ _ h => h) (okn rfl),
  s_rz C0 hr (d_X4_isFewer_36) ⟨by decide, by decide⟩⟩
theorem c_X4_isFewer (l : Launch) : Ctr l yX4_isFewer cX4_isFewer 4 (some .boolean) 11 220 0 (fun sx => (nf G_X4_isFewer)) := ctr_of (by decide) gz gz ⟨rfl, rfl⟩ (fun p e s m args below meth c D ca ad sx sy A Q as M C0 hE hr hno hF => P_X4_isFewer (L_X4_isFewer C0 hE hr hno) hF)
theorem wg376 : Cond.fieldLink "WeighedHall$Hollows" 9 "WeighedHall$Hollows" "over" "[I" ∈ GT := gt_mem 496 (by decide +kernel) rfl
theorem wg1159 : Cond.code ⟨"WeighedHall$Hollows", "isFewer", "(I)Z"⟩ prog_6_method_6_code 4 (Option.some .boolean) ∈ GT := gt_mem 1279 (by decide +kernel) rfl
theorem wg11 : Cond.initialized "WeighedHall$Hollows" ∈ GT := gt_mem 131 (by decide +kernel) rfl
theorem wg1156 : Cond.methodLink "WeighedHall$Hollows" 81 ⟨"WeighedHall$Hollows", "isFewer", "(I)Z"⟩ ∈ GT := gt_mem 1276 (by decide +kernel) rfl
theorem wg1158 : Cond.instanceMethod ⟨"WeighedHall$Hollows", "isFewer", "(I)Z"⟩ ∈ GT := gt_mem 1278 (by decide +kernel) rfl
theorem ws78 : Cond.selects "WeighedHall$Hollows" ⟨"WeighedHall$Hollows", "isFewer", "(I)Z"⟩ ⟨"WeighedHall$Hollows", "isFewer", "(I)Z"⟩ ∈ GT := gt_mem 78 (by decide +kernel) rfl
theorem wg368 : Cond.fieldLink "WeighedHall$Hollows" 18 "WeighedHall$Hollows" "sets" "I" ∈ GT := gt_mem 488 (by decide +kernel) rfl
theorem wg372 : Cond.fieldLink "WeighedHall$Hollows" 31 "WeighedHall$Hollows" "inAny" "I" ∈ GT := gt_mem 492 (by decide +kernel) rfl
theorem wg370 : Cond.fieldLink "WeighedHall$Hollows" 28 "WeighedHall$Hollows" "inAll" "I" ∈ GT := gt_mem 490 (by decide +kernel) rfl
theorem d_X4_lookAt_0 : decode cX4_lookAt 0 = .ok (.iconst 0, 1) := by decide +kernel
theorem d_X4_lookAt_1 : decode cX4_lookAt 1 = .ok (.istore_n 3, 1) := by decide +kernel
theorem d_X4_lookAt_2 : decode cX4_lookAt 2 = .ok (.iload_n 3, 1) := by decide +kernel
theorem d_X4_lookAt_3 : decode cX4_lookAt 3 = .ok (.iload_n 2, 1) := by decide +kernel
theorem d_X4_lookAt_4 : decode cX4_lookAt 4 = .ok (.if_icmp .ge 19, 3) := by decide +kernel
theorem d_X4_lookAt_7 : decode cX4_lookAt 7 = .ok (.aload_n 0, 1) := by decide +kernel
theorem d_X4_lookAt_8 : decode cX4_lookAt 8 = .ok (.getfield 9, 3) := by decide +kernel
theorem d_X4_lookAt_11 : decode cX4_lookAt 11 = .ok (.iload_n 3, 1) := by decide +kernel
theorem d_X4_lookAt_12 : decode cX4_lookAt 12 = .ok (.iaload, 1) := by decide +kernel
theorem d_X4_lookAt_13 : decode cX4_lookAt 13 = .ok (.ifCond .eq 4, 3) := by decide +kernel
theorem d_X4_lookAt_16 : decode cX4_lookAt 16 = .ok (.return_, 1) := by decide +kernel
theorem d_X4_lookAt_17 : decode cX4_lookAt 17 = .ok (.iinc 3 1, 3) := by decide +kernel
theorem d_X4_lookAt_20 : decode cX4_lookAt 20 = .ok (.goto (-18), 3) := by decide +kernel
theorem d_X4_lookAt_23 : decode cX4_lookAt 23 = .ok (.aload_n 0, 1) := by decide +kernel
theorem d_X4_lookAt_24 : decode cX4_lookAt 24 = .ok (.getfield 18, 3) := by decide +kernel
theorem d_X4_lookAt_27 : decode cX4_lookAt 27 = .ok (.ifCond .eq 11, 3) := by decide +kernel
theorem d_X4_lookAt_30 : decode cX4_lookAt 30 = .ok (.aload_n 0, 1) := by decide +kernel
theorem d_X4_lookAt_31 : decode cX4_lookAt 31 = .ok (.iload_n 1, 1) := by decide +kernel
theorem d_X4_lookAt_32 : decode cX4_lookAt 32 = .ok (.invokevirtual 81, 3) := by decide +kernel
theorem d_X4_lookAt_35 : decode cX4_lookAt 35 = .ok (.ifCond .eq 8, 3) := by decide +kernel
theorem d_X4_lookAt_38 : decode cX4_lookAt 38 = .ok (.aload_n 0, 1) := by decide +kernel
theorem d_X4_lookAt_39 : decode cX4_lookAt 39 = .ok (.iload_n 1, 1) := by decide +kernel
theorem d_X4_lookAt_40 : decode cX4_lookAt 40 = .ok (.putfield 85, 3) := by decide +kernel
theorem d_X4_lookAt_43 : decode cX4_lookAt 43 = .ok (.aload_n 0, 1) := by decide +kernel
theorem d_X4_lookAt_44 : decode cX4_lookAt 44 = .ok (.dup, 1) := by decide +kernel
theorem d_X4_lookAt_45 : decode cX4_lookAt 45 = .ok (.getfield 18, 3) := by decide +kernel
theorem d_X4_lookAt_48 : decode cX4_lookAt 48 = .ok (.iconst 1, 1) := by decide +kernel
theorem d_X4_lookAt_49 : decode cX4_lookAt 49 = .ok (.iadd, 1) := by decide +kernel
theorem d_X4_lookAt_50 : decode cX4_lookAt 50 = .ok (.putfield 18, 3) := by decide +kernel
theorem d_X4_lookAt_53 : decode cX4_lookAt 53 = .ok (.aload_n 0, 1) := by decide +kernel
theorem d_X4_lookAt_54 : decode cX4_lookAt 54 = .ok (.dup, 1) := by decide +kernel
theorem d_X4_lookAt_55 : decode cX4_lookAt 55 = .ok (.getfield 28, 3) := by decide +kernel
theorem d_X4_lookAt_58 : decode cX4_lookAt 58 = .ok (.iload_n 1, 1) := by decide +kernel
theorem d_X4_lookAt_59 : decode cX4_lookAt 59 = .ok (.iand, 1) := by decide +kernel
theorem d_X4_lookAt_60 : decode cX4_lookAt 60 = .ok (.putfield 28, 3) := by decide +kernel
theorem d_X4_lookAt_63 : decode cX4_lookAt 63 = .ok (.aload_n 0, 1) := by decide +kernel
theorem d_X4_lookAt_64 : decode cX4_lookAt 64 = .ok (.dup, 1) := by decide +kernel
theorem d_X4_lookAt_65 : decode cX4_lookAt 65 = .ok (.getfield 31, 3) := by decide +kernel
theorem d_X4_lookAt_68 : decode cX4_lookAt 68 = .ok (.iload_n 1, 1) := by decide +kernel
theorem d_X4_lookAt_69 : decode cX4_lookAt 69 = .ok (.ior, 1) := by decide +kernel
theorem d_X4_lookAt_70 : decode cX4_lookAt 70 = .ok (.putfield 31, 3) := by decide +kernel
theorem d_X4_lookAt_73 : decode cX4_lookAt 73 = .ok (.return_, 1) := by decide +kernel
set_option maxRecDepth 100000 in
theorem L_X4_lookAt {p : Program} {l : Launch} {e : Env} {s : State} {m : MethodId} {args : Array Value} {below : List Frame} {meth : Method} {c : Code} {D : va_G} {ca : Nat → ClassId} {ad sx sy : Nat → Nat} {A : Nat → Prop} {Q : QT} (C0 : CX p s m args meth c cX4_lookAt 4 yX4_lookAt.cls D ca ad A) (hE : EX sx sy A s s.heap) (hr : meth.sig.returnType = none) (hno : ∀ x ∈ c.exceptionTable.toList, False) : R_X4_lookAt (JW p l e { frames := 12, cells := 0, slots := 6 * 0, locals := 243 } s m args below meth c 4 D ca ad A (vx_MQ below (Qn D ca ad A Q) (Qx D ca ad A Q) args s 0 (6 * 0) A) gz gz true) Q := ⟨s_ic C0 (d_X4_lookAt_0) hgz (s_isn C0 (d_X4_lookAt_1) hgz (fun _ _ _ h => h)) (okn rfl),
  s_iln C0 (d_X4_lookAt_2) hgz (s_iln C0 (d_X4_lookAt_3) hgz (s_cge C0 (d_X4_lookAt_4) (by decide) hgz hgz (fun _ _ _ h => h) (s_aln C0 (d_X4_lookAt_7) hgz (s_gr C0 (j := 5) (c0 := 4) rfl gX4 (by decide) rfl rfl wg376 (d_X4_lookAt_8) hgz (s_iln C0 (d_X4_lookAt_11) hgz (s_ia C0 (d_X4_lookAt_12) hgz (s_zeq C0 (d_X4_lookAt_13) (by decide) hgz hgz (fun _ _ _ h => h) (s_rv C0 hr (d_X4_lookAt_16) ⟨by decide, by decide⟩)))))))),
  s_inc C0 (d_X4_lookAt_17) hgz (s_goto C0 (tgt := 2) (d_X4_lookAt_20) (by decide) hgz (fun _ _ _ h => h)),
  s_aln C0 (d_X4_lookAt_23) hgz (s_gi C0 (j := 1) (c0 := 4) rfl gX4 (by decide) rfl (by decide) wg368 (d_X4_lookAt_24) hgz (s_zeq C0 (d_X4_lookAt_27) (by decide) hgz hgz (fun _ _ _ h => h) (s_aln C0 (d_X4_lookAt_30) hgz (s_iln C0 (d_X4_lookAt_31) hgz (s_callV C0 hE (c_X4_isFewer l) wg1159 wg1156 wg1158 ws78 wg11 ⟨by decide, by decide⟩ (by decide +kernel) (c0 := 4) rfl ⟨by decide, by decide⟩ ⟨by decide, by decide⟩ (d_X4_lookAt_32) (fun x hx => (hno x hx).elim) ⟨by decide, by decide⟩ ⟨by decide, by decide⟩ (s_zeq C0 (d_X4_lookAt_35) (by decide) hgz hgz (fun _ _ _ h => h) (fun _ _ _ h => h))))))),
  s_aln C0 (d_X4_lookAt_38) hgz (s_iln C0 (d_X4_lookAt_39) hgz (s_pi C0 (j := 4) (c0 := 4) rfl gX4 tyX4_ok nmX4 (by decide) rfl (by decide) rfl rfl wg374 (d_X4_lookAt_40) hgz (fun _ _ _ h => h))),
  s_aln C0 (d_X4_lookAt_43) hgz (s_dup C0 (d_X4_lookAt_44) hgz (s_gi C0 (j := 1) (c0 := 4) rfl gX4 (by decide) rfl (by decide) wg368 (d_X4_lookAt_45) hgz (s_ic C0 (d_X4_lookAt_48) hgz (s_add C0 (d_X4_lookAt_49) hgz (s_pi C0 (j := 1) (c0 := 4) rfl gX4 tyX4_ok nmX4 (by decide) rfl (by decide) rfl rfl wg368 (d_X4_lookAt_50) hgz (s_aln C0 (d_X4_lookAt_53) hgz (s_dup C0 (d_X4_lookAt_54) hgz (s_gi C0 (j := 2) (c0 := 4) rfl gX4 (by decide) rfl (by decide) wg370 (d_X4_lookAt_55) hgz (s_iln C0 (d_X4_lookAt_58) hgz (s_and C0 (d_X4_lookAt_59) hgz (s_pi C0 (j := 2) (c0 := 4) rfl gX4 tyX4_ok nmX4 (by decide) rfl (by decide) rfl rfl wg370 (d_X4_lookAt_60) hgz (s_aln C0 (d_X4_lookAt_63) hgz (s_dup C0 (d_X4_lookAt_64) hgz (s_gi C0 (j := 3) (c0 := 4) rfl gX4 (by decide) rfl (by decide) wg372 (d_X4_lookAt_65) hgz (s_iln C0 (d_X4_lookAt_68) hgz (s_or C0 (d_X4_lookAt_69) hgz (s_pi C0 (j := 3) (c0 := 4) rfl gX4 tyX4_ok nmX4 (by decide) rfl (by decide) rfl rfl wg372 (d_X4_lookAt_70) hgz (s_rv C0 hr (d_X4_lookAt_73) ⟨by decide, by decide⟩))))))))))))))) (okn rfl))))⟩
theorem c_X4_lookAt (l : Launch) : Ctr l yX4_lookAt cX4_lookAt 4 none 12 243 0 (fun sx => (nf G_X4_lookAt)) := ctr_of (by decide) gz gz ⟨rfl, rfl⟩ (fun p e s m args below meth c D ca ad sx sy A Q as M C0 hE hr hno hF => P_X4_lookAt (L_X4_lookAt C0 hE hr hno) hF)
theorem wn208 : Cond.fieldLinkNest "WeighedHall$Hollows" 66 "WeighedHall$Ballots" "more" "[I" "WeighedHall" ∈ NT := nt_mem 208 (by decide +kernel) rfl
theorem wn201 : Cond.fieldLinkNest "WeighedHall$Hollows" 38 "WeighedHall$Ballots" "number" "I" "WeighedHall" ∈ NT := nt_mem 201 (by decide +kernel) rfl
theorem wn1151 : Cond.methodLinkNest "WeighedHall$Hollows" 54 ⟨"WeighedHall", "isIn", "(II)Z"⟩ "WeighedHall" ∈ NT := nt_mem 1151 (by decide +kernel) rfl
theorem wn204 : Cond.fieldLinkNest "WeighedHall$Hollows" 72 "WeighedHall$Ballots" "pro" "[I" "WeighedHall" ∈ NT := nt_mem 204 (by decide +kernel) rfl
theorem wn95 : Cond.fieldLinkNest "WeighedHall$Hollows" 69 "WeighedHall$Plan" "owner" "[I" "WeighedHall" ∈ NT := nt_mem 95 (by decide +kernel) rfl
theorem wn86 : Cond.fieldLinkNest "WeighedHall$Hollows" 47 "WeighedHall$Plan" "things" "I" "WeighedHall" ∈ NT := nt_mem 86 (by decide +kernel) rfl
theorem wn206 : Cond.fieldLinkNest "WeighedHall$Hollows" 75 "WeighedHall$Ballots" "con" "[I" "WeighedHall" ∈ NT := nt_mem 206 (by decide +kernel) rfl
theorem wn101 : Cond.fieldLinkNest "WeighedHall$Hollows" 78 "WeighedHall$Plan" "weight" "[I" "WeighedHall" ∈ NT := nt_mem 101 (by decide +kernel) rfl
theorem wg377 : Cond.fieldLink "WeighedHall$Hollows" 15 "WeighedHall$Hollows" "change" "[I" ∈ GT := gt_mem 497 (by decide +kernel) rfl
theorem d_X4_weighAll_0 : decode cX4_weighAll 0 = .ok (.iconst 0, 1) := by decide +kernel
theorem d_X4_weighAll_1 : decode cX4_weighAll 1 = .ok (.istore_n 3, 1) := by decide +kernel
theorem d_X4_weighAll_2 : decode cX4_weighAll 2 = .ok (.iload_n 3, 1) := by decide +kernel
theorem d_X4_weighAll_3 : decode cX4_weighAll 3 = .ok (.aload_n 2, 1) := by decide +kernel
theorem d_X4_weighAll_4 : decode cX4_weighAll 4 = .ok (.getfield 38, 3) := by decide +kernel
theorem d_X4_weighAll_7 : decode cX4_weighAll 7 = .ok (.if_icmp .ge 140, 3) := by decide +kernel
theorem d_X4_weighAll_10 : decode cX4_weighAll 10 = .ok (.aload_n 0, 1) := by decide +kernel
theorem d_X4_weighAll_11 : decode cX4_weighAll 11 = .ok (.getfield 9, 3) := by decide +kernel
theorem d_X4_weighAll_14 : decode cX4_weighAll 14 = .ok (.iload_n 3, 1) := by decide +kernel
theorem d_X4_weighAll_15 : decode cX4_weighAll 15 = .ok (.aload_n 2, 1) := by decide +kernel
theorem d_X4_weighAll_16 : decode cX4_weighAll 16 = .ok (.getfield 66, 3) := by decide +kernel
theorem d_X4_weighAll_19 : decode cX4_weighAll 19 = .ok (.iload_n 3, 1) := by decide +kernel
theorem d_X4_weighAll_20 : decode cX4_weighAll 20 = .ok (.iaload, 1) := by decide +kernel
theorem d_X4_weighAll_21 : decode cX4_weighAll 21 = .ok (.ineg, 1) := by decide +kernel
theorem d_X4_weighAll_22 : decode cX4_weighAll 22 = .ok (.iastore, 1) := by decide +kernel
theorem d_X4_weighAll_23 : decode cX4_weighAll 23 = .ok (.iconst 0, 1) := by decide +kernel
theorem d_X4_weighAll_24 : decode cX4_weighAll 24 = .ok (.istore 4, 2) := by decide +kernel
theorem d_X4_weighAll_26 : decode cX4_weighAll 26 = .ok (.iload 4, 2) := by decide +kernel
theorem d_X4_weighAll_28 : decode cX4_weighAll 28 = .ok (.aload_n 1, 1) := by decide +kernel
theorem d_X4_weighAll_29 : decode cX4_weighAll 29 = .ok (.getfield 47, 3) := by decide +kernel
theorem d_X4_weighAll_32 : decode cX4_weighAll 32 = .ok (.if_icmp .ge 109, 3) := by decide +kernel
theorem d_X4_weighAll_35 : decode cX4_weighAll 35 = .ok (.aload_n 1, 1) := by decide +kernel
theorem d_X4_weighAll_36 : decode cX4_weighAll 36 = .ok (.getfield 69, 3) := by decide +kernel
theorem d_X4_weighAll_39 : decode cX4_weighAll 39 = .ok (.iload 4, 2) := by decide +kernel
theorem d_X4_weighAll_41 : decode cX4_weighAll 41 = .ok (.iaload, 1) := by decide +kernel
theorem d_X4_weighAll_42 : decode cX4_weighAll 42 = .ok (.aload_n 2, 1) := by decide +kernel
theorem d_X4_weighAll_43 : decode cX4_weighAll 43 = .ok (.getfield 72, 3) := by decide +kernel
theorem d_X4_weighAll_46 : decode cX4_weighAll 46 = .ok (.iload_n 3, 1) := by decide +kernel
theorem d_X4_weighAll_47 : decode cX4_weighAll 47 = .ok (.iaload, 1) := by decide +kernel
theorem d_X4_weighAll_48 : decode cX4_weighAll 48 = .ok (.invokestatic 54, 3) := by decide +kernel
theorem d_X4_weighAll_51 : decode cX4_weighAll 51 = .ok (.ifCond .eq 7, 3) := by decide +kernel
theorem d_X4_weighAll_54 : decode cX4_weighAll 54 = .ok (.iconst 1, 1) := by decide +kernel
theorem d_X4_weighAll_55 : decode cX4_weighAll 55 = .ok (.goto 27, 3) := by decide +kernel
theorem d_X4_weighAll_58 : decode cX4_weighAll 58 = .ok (.aload_n 1, 1) := by decide +kernel
theorem d_X4_weighAll_59 : decode cX4_weighAll 59 = .ok (.getfield 69, 3) := by decide +kernel
theorem d_X4_weighAll_62 : decode cX4_weighAll 62 = .ok (.iload 4, 2) := by decide +kernel
theorem d_X4_weighAll_64 : decode cX4_weighAll 64 = .ok (.iaload, 1) := by decide +kernel
theorem d_X4_weighAll_65 : decode cX4_weighAll 65 = .ok (.aload_n 2, 1) := by decide +kernel
theorem d_X4_weighAll_66 : decode cX4_weighAll 66 = .ok (.getfield 75, 3) := by decide +kernel
theorem d_X4_weighAll_69 : decode cX4_weighAll 69 = .ok (.iload_n 3, 1) := by decide +kernel
theorem d_X4_weighAll_70 : decode cX4_weighAll 70 = .ok (.iaload, 1) := by decide +kernel
theorem d_X4_weighAll_71 : decode cX4_weighAll 71 = .ok (.invokestatic 54, 3) := by decide +kernel
theorem d_X4_weighAll_74 : decode cX4_weighAll 74 = .ok (.ifCond .eq 7, 3) := by decide +kernel
theorem d_X4_weighAll_77 : decode cX4_weighAll 77 = .ok (.iconst (-1), 1) := by decide +kernel
theorem d_X4_weighAll_78 : decode cX4_weighAll 78 = .ok (.goto 4, 3) := by decide +kernel
theorem d_X4_weighAll_81 : decode cX4_weighAll 81 = .ok (.iconst 0, 1) := by decide +kernel
theorem d_X4_weighAll_82 : decode cX4_weighAll 82 = .ok (.istore 5, 2) := by decide +kernel
theorem d_X4_weighAll_84 : decode cX4_weighAll 84 = .ok (.aload_n 0, 1) := by decide +kernel
theorem d_X4_weighAll_85 : decode cX4_weighAll 85 = .ok (.getfield 9, 3) := by decide +kernel
theorem d_X4_weighAll_88 : decode cX4_weighAll 88 = .ok (.iload_n 3, 1) := by decide +kernel
theorem d_X4_weighAll_89 : decode cX4_weighAll 89 = .ok (.dup2, 1) := by decide +kernel
theorem d_X4_weighAll_90 : decode cX4_weighAll 90 = .ok (.iaload, 1) := by decide +kernel
theorem d_X4_weighAll_91 : decode cX4_weighAll 91 = .ok (.iload 5, 2) := by decide +kernel
theorem d_X4_weighAll_93 : decode cX4_weighAll 93 = .ok (.aload_n 1, 1) := by decide +kernel
theorem d_X4_weighAll_94 : decode cX4_weighAll 94 = .ok (.getfield 78, 3) := by decide +kernel
theorem d_X4_weighAll_97 : decode cX4_weighAll 97 = .ok (.iload 4, 2) := by decide +kernel
theorem d_X4_weighAll_99 : decode cX4_weighAll 99 = .ok (.iaload, 1) := by decide +kernel
theorem d_X4_weighAll_100 : decode cX4_weighAll 100 = .ok (.imul, 1) := by decide +kernel
theorem d_X4_weighAll_101 : decode cX4_weighAll 101 = .ok (.iadd, 1) := by decide +kernel
theorem d_X4_weighAll_102 : decode cX4_weighAll 102 = .ok (.iastore, 1) := by decide +kernel
theorem d_X4_weighAll_103 : decode cX4_weighAll 103 = .ok (.aload_n 0, 1) := by decide +kernel
theorem d_X4_weighAll_104 : decode cX4_weighAll 104 = .ok (.getfield 15, 3) := by decide +kernel
theorem d_X4_weighAll_107 : decode cX4_weighAll 107 = .ok (.iload_n 3, 1) := by decide +kernel
theorem d_X4_weighAll_108 : decode cX4_weighAll 108 = .ok (.bipush 14, 2) := by decide +kernel
theorem d_X4_weighAll_110 : decode cX4_weighAll 110 = .ok (.imul, 1) := by decide +kernel
theorem d_X4_weighAll_111 : decode cX4_weighAll 111 = .ok (.iload 4, 2) := by decide +kernel
theorem d_X4_weighAll_113 : decode cX4_weighAll 113 = .ok (.iadd, 1) := by decide +kernel
theorem d_X4_weighAll_114 : decode cX4_weighAll 114 = .ok (.iload 5, 2) := by decide +kernel
theorem d_X4_weighAll_116 : decode cX4_weighAll 116 = .ok (.aload_n 1, 1) := by decide +kernel
theorem d_X4_weighAll_117 : decode cX4_weighAll 117 = .ok (.getfield 78, 3) := by decide +kernel
theorem d_X4_weighAll_120 : decode cX4_weighAll 120 = .ok (.iload 4, 2) := by decide +kernel
theorem d_X4_weighAll_122 : decode cX4_weighAll 122 = .ok (.iaload, 1) := by decide +kernel
theorem d_X4_weighAll_123 : decode cX4_weighAll 123 = .ok (.iconst 2, 1) := by decide +kernel
theorem d_X4_weighAll_124 : decode cX4_weighAll 124 = .ok (.idiv, 1) := by decide +kernel
theorem d_X4_weighAll_125 : decode cX4_weighAll 125 = .ok (.aload_n 1, 1) := by decide +kernel
theorem d_X4_weighAll_126 : decode cX4_weighAll 126 = .ok (.getfield 78, 3) := by decide +kernel
theorem d_X4_weighAll_129 : decode cX4_weighAll 129 = .ok (.iload 4, 2) := by decide +kernel
theorem d_X4_weighAll_131 : decode cX4_weighAll 131 = .ok (.iaload, 1) := by decide +kernel
theorem d_X4_weighAll_132 : decode cX4_weighAll 132 = .ok (.isub, 1) := by decide +kernel
theorem d_X4_weighAll_133 : decode cX4_weighAll 133 = .ok (.imul, 1) := by decide +kernel
theorem d_X4_weighAll_134 : decode cX4_weighAll 134 = .ok (.iastore, 1) := by decide +kernel
theorem d_X4_weighAll_135 : decode cX4_weighAll 135 = .ok (.iinc 4 1, 3) := by decide +kernel
theorem d_X4_weighAll_138 : decode cX4_weighAll 138 = .ok (.goto (-112), 3) := by decide +kernel
theorem d_X4_weighAll_141 : decode cX4_weighAll 141 = .ok (.iinc 3 1, 3) := by decide +kernel
theorem d_X4_weighAll_144 : decode cX4_weighAll 144 = .ok (.goto (-142), 3) := by decide +kernel
theorem d_X4_weighAll_147 : decode cX4_weighAll 147 = .ok (.return_, 1) := by decide +kernel
set_option maxRecDepth 100000 in
theorem L_X4_weighAll {p : Program} {l : Launch} {e : Env} {s : State} {m : MethodId} {args : Array Value} {below : List Frame} {meth : Method} {c : Code} {D : va_G} {ca : Nat → ClassId} {ad sx sy : Nat → Nat} {A : Nat → Prop} {Q : QT} (C0 : CX p s m args meth c cX4_weighAll 6 yX4_weighAll.cls D ca ad A) (hE : EX sx sy A s s.heap) (hr : meth.sig.returnType = none) (hno : ∀ x ∈ c.exceptionTable.toList, False) : R_X4_weighAll (JW p l e { frames := 11, cells := 0, slots := 6 * 0, locals := 221 } s m args below meth c 6 D ca ad A (vx_MQ below (Qn D ca ad A Q) (Qx D ca ad A Q) args s 0 (6 * 0) A) gz gz true) Q := ⟨s_ic C0 (d_X4_weighAll_0) hgz (s_isn C0 (d_X4_weighAll_1) hgz (fun _ _ _ h => h)) (okn rfl),
  s_iln C0 (d_X4_weighAll_2) hgz (s_aln C0 (d_X4_weighAll_3) hgz (s_giN C0 (j := 0) (c0 := 0) rfl gX0 (by decide) rfl (by decide) wn201 (d_X4_weighAll_4) hgz (s_cge C0 (d_X4_weighAll_7) (by decide) hgz hgz (fun _ _ _ h => h) (s_aln C0 (d_X4_weighAll_10) hgz (s_gr C0 (j := 5) (c0 := 4) rfl gX4 (by decide) rfl rfl wg376 (d_X4_weighAll_11) hgz (s_iln C0 (d_X4_weighAll_14) hgz (s_aln C0 (d_X4_weighAll_15) hgz (s_grN C0 (j := 3) (c0 := 0) rfl gX0 (by decide) rfl rfl wn208 (d_X4_weighAll_16) hgz (s_iln C0 (d_X4_weighAll_19) hgz (s_ia C0 (d_X4_weighAll_20) hgz (s_neg C0 (d_X4_weighAll_21) hgz (s_iax C0 (d_X4_weighAll_22) hgz (s_ic C0 (d_X4_weighAll_23) hgz (s_is C0 (d_X4_weighAll_24) hgz (fun _ _ _ h => h)) (okn rfl)))))))))))))),
  s_il C0 (d_X4_weighAll_26) hgz (s_aln C0 (d_X4_weighAll_28) hgz (s_giN C0 (j := 3) (c0 := 6) rfl gX6 (by decide) rfl (by decide) wn86 (d_X4_weighAll_29) hgz (s_cge C0 (d_X4_weighAll_32) (by decide) hgz hgz (fun _ _ _ h => h) (s_aln C0 (d_X4_weighAll_35) hgz (s_grN C0 (j := 4) (c0 := 6) rfl gX6 (by decide) rfl rfl wn95 (d_X4_weighAll_36) hgz (s_il C0 (d_X4_weighAll_39) hgz (s_ia C0 (d_X4_weighAll_41) hgz (s_aln C0 (d_X4_weighAll_42) hgz (s_grN C0 (j := 1) (c0 := 0) rfl gX0 (by decide) rfl rfl wn204 (d_X4_weighAll_43) hgz (s_iln C0 (d_X4_weighAll_46) hgz (s_ia C0 (d_X4_weighAll_47) hgz (s_callSN C0 hE (c_X10_isIn l) wg491 wn1151 wg490 wg1 ⟨by decide, by decide⟩ (by decide +kernel) ⟨by decide, by decide⟩ ⟨by decide, by decide⟩ (d_X4_weighAll_48) (fun x hx => (hno x hx).elim) ⟨by decide, by decide⟩ ⟨by decide, by decide⟩ (s_zeq C0 (d_X4_weighAll_51) (by decide) hgz hgz (fun _ _ _ h => h) (s_ic C0 (d_X4_weighAll_54) hgz (s_goto C0 (tgt := 82) (d_X4_weighAll_55) (by decide) hgz (fun _ _ _ h => h)) (okn rfl))))))))))))))),
  s_aln C0 (d_X4_weighAll_58) hgz (s_grN C0 (j := 4) (c0 := 6) rfl gX6 (by decide) rfl rfl wn95 (d_X4_weighAll_59) hgz (s_il C0 (d_X4_weighAll_62) hgz (s_ia C0 (d_X4_weighAll_64) hgz (s_aln C0 (d_X4_weighAll_65) hgz (s_grN C0 (j := 2) (c0 := 0) rfl gX0 (by decide) rfl rfl wn206 (d_X4_weighAll_66) hgz (s_iln C0 (d_X4_weighAll_69) hgz (s_ia C0 (d_X4_weighAll_70) hgz (s_callSN C0 hE (c_X10_isIn l) wg491 wn1151 wg490 wg1 ⟨by decide, by decide⟩ (by decide +kernel) ⟨by decide, by decide⟩ ⟨by decide, by decide⟩ (d_X4_weighAll_71) (fun x hx => (hno x hx).elim) ⟨by decide, by decide⟩ ⟨by decide, by decide⟩ (s_zeq C0 (d_X4_weighAll_74) (by decide) hgz hgz (fun _ _ _ h => h) (s_ic C0 (d_X4_weighAll_77) hgz (s_goto C0 (tgt := 82) (d_X4_weighAll_78) (by decide) hgz (fun _ _ _ h => h)) (okn rfl))))))))))),
  s_ic C0 (d_X4_weighAll_81) hgz (fun _ _ _ h => h) (okn rfl),
  s_is C0 (d_X4_weighAll_82) hgz (s_aln C0 (d_X4_weighAll_84) hgz (s_gr C0 (j := 5) (c0 := 4) rfl gX4 (by decide) rfl rfl wg376 (d_X4_weighAll_85) hgz (s_iln C0 (d_X4_weighAll_88) hgz (s_dup2 C0 (d_X4_weighAll_89) hgz (s_ia C0 (d_X4_weighAll_90) hgz (s_il C0 (d_X4_weighAll_91) hgz (s_aln C0 (d_X4_weighAll_93) hgz (s_grN C0 (j := 5) (c0 := 6) rfl gX6 (by decide) rfl rfl wn101 (d_X4_weighAll_94) hgz (s_il C0 (d_X4_weighAll_97) hgz (s_ia C0 (d_X4_weighAll_99) hgz (s_mul C0 (d_X4_weighAll_100) hgz (s_add C0 (d_X4_weighAll_101) hgz (s_iax C0 (d_X4_weighAll_102) hgz (s_aln C0 (d_X4_weighAll_103) hgz (s_gr C0 (j := 6) (c0 := 4) rfl gX4 (by decide) rfl rfl wg377 (d_X4_weighAll_104) hgz (s_iln C0 (d_X4_weighAll_107) hgz (s_bi C0 (d_X4_weighAll_108) hgz (s_mul C0 (d_X4_weighAll_110) hgz (s_il C0 (d_X4_weighAll_111) hgz (s_add C0 (d_X4_weighAll_113) hgz (s_il C0 (d_X4_weighAll_114) hgz (s_aln C0 (d_X4_weighAll_116) hgz (s_grN C0 (j := 5) (c0 := 6) rfl gX6 (by decide) rfl rfl wn101 (d_X4_weighAll_117) hgz (s_il C0 (d_X4_weighAll_120) hgz (s_ia C0 (d_X4_weighAll_122) hgz (s_ic C0 (d_X4_weighAll_123) hgz (s_div C0 (d_X4_weighAll_124) hgz (s_aln C0 (d_X4_weighAll_125) hgz (s_grN C0 (j := 5) (c0 := 6) rfl gX6 (by decide) rfl rfl wn101 (d_X4_weighAll_126) hgz (s_il C0 (d_X4_weighAll_129) hgz (s_ia C0 (d_X4_weighAll_131) hgz (s_sub C0 (d_X4_weighAll_132) hgz (s_mul C0 (d_X4_weighAll_133) hgz (s_iax C0 (d_X4_weighAll_134) hgz (s_inc C0 (d_X4_weighAll_135) hgz (s_goto C0 (tgt := 26) (d_X4_weighAll_138) (by decide) hgz (fun _ _ _ h => h))))))))))) (okn rfl)))))))))) (okn rfl) rfl))))))))))))))))),
  s_inc C0 (d_X4_weighAll_141) hgz (s_goto C0 (tgt := 2) (d_X4_weighAll_144) (by decide) hgz (fun _ _ _ h => h)),
  s_rv C0 hr (d_X4_weighAll_147) ⟨by decide, by decide⟩⟩
theorem c_X4_weighAll (l : Launch) : Ctr l yX4_weighAll cX4_weighAll 6 none 11 221 0 (fun sx => (nf G_X4_weighAll)) := ctr_of (by decide) gz gz ⟨rfl, rfl⟩ (fun p e s m args below meth c D ca ad sx sy A Q as M C0 hE hr hno hF => P_X4_weighAll (L_X4_weighAll C0 hE hr hno) hF)
theorem d_X4_turn_0 : decode cX4_turn 0 = .ok (.iconst 0, 1) := by decide +kernel
theorem d_X4_turn_1 : decode cX4_turn 1 = .ok (.istore 4, 2) := by decide +kernel
theorem d_X4_turn_3 : decode cX4_turn 3 = .ok (.iload 4, 2) := by decide +kernel
theorem d_X4_turn_5 : decode cX4_turn 5 = .ok (.iload_n 3, 1) := by decide +kernel
theorem d_X4_turn_6 : decode cX4_turn 6 = .ok (.if_icmp .ge 33, 3) := by decide +kernel
theorem d_X4_turn_9 : decode cX4_turn 9 = .ok (.aload_n 0, 1) := by decide +kernel
theorem d_X4_turn_10 : decode cX4_turn 10 = .ok (.getfield 9, 3) := by decide +kernel
theorem d_X4_turn_13 : decode cX4_turn 13 = .ok (.iload 4, 2) := by decide +kernel
theorem d_X4_turn_15 : decode cX4_turn 15 = .ok (.dup2, 1) := by decide +kernel
theorem d_X4_turn_16 : decode cX4_turn 16 = .ok (.iaload, 1) := by decide +kernel
theorem d_X4_turn_17 : decode cX4_turn 17 = .ok (.iload_n 2, 1) := by decide +kernel
theorem d_X4_turn_18 : decode cX4_turn 18 = .ok (.aload_n 0, 1) := by decide +kernel
theorem d_X4_turn_19 : decode cX4_turn 19 = .ok (.getfield 15, 3) := by decide +kernel
theorem d_X4_turn_22 : decode cX4_turn 22 = .ok (.iload 4, 2) := by decide +kernel
theorem d_X4_turn_24 : decode cX4_turn 24 = .ok (.bipush 14, 2) := by decide +kernel
theorem d_X4_turn_26 : decode cX4_turn 26 = .ok (.imul, 1) := by decide +kernel
theorem d_X4_turn_27 : decode cX4_turn 27 = .ok (.iload_n 1, 1) := by decide +kernel
theorem d_X4_turn_28 : decode cX4_turn 28 = .ok (.iadd, 1) := by decide +kernel
theorem d_X4_turn_29 : decode cX4_turn 29 = .ok (.iaload, 1) := by decide +kernel
theorem d_X4_turn_30 : decode cX4_turn 30 = .ok (.imul, 1) := by decide +kernel
theorem d_X4_turn_31 : decode cX4_turn 31 = .ok (.iadd, 1) := by decide +kernel
theorem d_X4_turn_32 : decode cX4_turn 32 = .ok (.iastore, 1) := by decide +kernel
theorem d_X4_turn_33 : decode cX4_turn 33 = .ok (.iinc 4 1, 3) := by decide +kernel
theorem d_X4_turn_36 : decode cX4_turn 36 = .ok (.goto (-33), 3) := by decide +kernel
theorem d_X4_turn_39 : decode cX4_turn 39 = .ok (.return_, 1) := by decide +kernel
set_option maxRecDepth 100000 in
theorem L_X4_turn {p : Program} {l : Launch} {e : Env} {s : State} {m : MethodId} {args : Array Value} {below : List Frame} {meth : Method} {c : Code} {D : va_G} {ca : Nat → ClassId} {ad sx sy : Nat → Nat} {A : Nat → Prop} {Q : QT} (C0 : CX p s m args meth c cX4_turn 5 yX4_turn.cls D ca ad A) (hE : EX sx sy A s s.heap) (hr : meth.sig.returnType = none) (hno : ∀ x ∈ c.exceptionTable.toList, False) : R_X4_turn (JW p l e { frames := 10, cells := 0, slots := 6 * 0, locals := 200 } s m args below meth c 5 D ca ad A (vx_MQ below (Qn D ca ad A Q) (Qx D ca ad A Q) args s 0 (6 * 0) A) gz gz true) Q := ⟨s_ic C0 (d_X4_turn_0) hgz (s_is C0 (d_X4_turn_1) hgz (fun _ _ _ h => h)) (okn rfl),
  s_il C0 (d_X4_turn_3) hgz (s_iln C0 (d_X4_turn_5) hgz (s_cge C0 (d_X4_turn_6) (by decide) hgz hgz (fun _ _ _ h => h) (s_aln C0 (d_X4_turn_9) hgz (s_gr C0 (j := 5) (c0 := 4) rfl gX4 (by decide) rfl rfl wg376 (d_X4_turn_10) hgz (s_il C0 (d_X4_turn_13) hgz (s_dup2 C0 (d_X4_turn_15) hgz (s_ia C0 (d_X4_turn_16) hgz (s_iln C0 (d_X4_turn_17) hgz (s_aln C0 (d_X4_turn_18) hgz (s_gr C0 (j := 6) (c0 := 4) rfl gX4 (by decide) rfl rfl wg377 (d_X4_turn_19) hgz (s_il C0 (d_X4_turn_22) hgz (s_bi C0 (d_X4_turn_24) hgz (s_mul C0 (d_X4_turn_26) hgz (s_iln C0 (d_X4_turn_27) hgz (s_add C0 (d_X4_turn_28) hgz (s_ia C0 (d_X4_turn_29) hgz (s_mul C0 (d_X4_turn_30) hgz (s_add C0 (d_X4_turn_31) hgz (s_iax C0 (d_X4_turn_32) hgz (s_inc C0 (d_X4_turn_33) hgz (s_goto C0 (tgt := 3) (d_X4_turn_36) (by decide) hgz (fun _ _ _ h => h)))))))))) (okn rfl) rfl)))))))))))),
  s_rv C0 hr (d_X4_turn_39) ⟨by decide, by decide⟩⟩
theorem c_X4_turn (l : Launch) : Ctr l yX4_turn cX4_turn 5 none 10 200 0 (fun sx => (nf G_X4_turn)) := ctr_of (by decide) gz gz ⟨rfl, rfl⟩ (fun p e s m args below meth c D ca ad sx sy A Q as M C0 hE hr hno hF => P_X4_turn (L_X4_turn C0 hE hr hno) hF)
theorem wg1155 : Cond.code ⟨"WeighedHall$Hollows", "lookAt", "(II)V"⟩ prog_6_method_5_code 4 (Option.none : Option FieldType) ∈ GT := gt_mem 1275 (by decide +kernel) rfl
theorem wg1152 : Cond.methodLink "WeighedHall$Hollows" 43 ⟨"WeighedHall$Hollows", "lookAt", "(II)V"⟩ ∈ GT := gt_mem 1272 (by decide +kernel) rfl
theorem wg1154 : Cond.instanceMethod ⟨"WeighedHall$Hollows", "lookAt", "(II)V"⟩ ∈ GT := gt_mem 1274 (by decide +kernel) rfl
theorem ws77 : Cond.selects "WeighedHall$Hollows" ⟨"WeighedHall$Hollows", "lookAt", "(II)V"⟩ ⟨"WeighedHall$Hollows", "lookAt", "(II)V"⟩ ∈ GT := gt_mem 77 (by decide +kernel) rfl
theorem wg1150 : Cond.code ⟨"WeighedHall$Hollows", "weighAll", "(LWeighedHall$Plan;LWeighedHall$Ballots;)V"⟩ prog_6_method_3_code 6 (Option.none : Option FieldType) ∈ GT := gt_mem 1270 (by decide +kernel) rfl
theorem wg1147 : Cond.methodLink "WeighedHall$Hollows" 34 ⟨"WeighedHall$Hollows", "weighAll", "(LWeighedHall$Plan;LWeighedHall$Ballots;)V"⟩ ∈ GT := gt_mem 1267 (by decide +kernel) rfl
theorem wg1149 : Cond.instanceMethod ⟨"WeighedHall$Hollows", "weighAll", "(LWeighedHall$Plan;LWeighedHall$Ballots;)V"⟩ ∈ GT := gt_mem 1269 (by decide +kernel) rfl
theorem ws76 : Cond.selects "WeighedHall$Hollows" ⟨"WeighedHall$Hollows", "weighAll", "(LWeighedHall$Plan;LWeighedHall$Ballots;)V"⟩ ⟨"WeighedHall$Hollows", "weighAll", "(LWeighedHall$Plan;LWeighedHall$Ballots;)V"⟩ ∈ GT := gt_mem 76 (by decide +kernel) rfl
theorem wg1146 : Cond.code ⟨"WeighedHall$Plan", "allThings", "()I"⟩ prog_8_method_11_code 1 (Option.some .int) ∈ GT := gt_mem 1266 (by decide +kernel) rfl
theorem wn1143 : Cond.methodLinkNest "WeighedHall$Hollows" 22 ⟨"WeighedHall$Plan", "allThings", "()I"⟩ "WeighedHall" ∈ NT := nt_mem 1143 (by decide +kernel) rfl
theorem wg1145 : Cond.instanceMethod ⟨"WeighedHall$Plan", "allThings", "()I"⟩ ∈ GT := gt_mem 1265 (by decide +kernel) rfl
theorem ws75 : Cond.selects "WeighedHall$Plan" ⟨"WeighedHall$Plan", "allThings", "()I"⟩ ⟨"WeighedHall$Plan", "allThings", "()I"⟩ ∈ GT := gt_mem 75 (by decide +kernel) rfl
theorem wn1161 : Cond.methodLinkNest "WeighedHall$Hollows" 50 ⟨"WeighedHall", "lowestOf", "(I)I"⟩ "WeighedHall" ∈ NT := nt_mem 1161 (by decide +kernel) rfl
theorem wg1165 : Cond.code ⟨"WeighedHall$Hollows", "turn", "(III)V"⟩ prog_6_method_4_code 5 (Option.none : Option FieldType) ∈ GT := gt_mem 1285 (by decide +kernel) rfl
theorem wg1162 : Cond.methodLink "WeighedHall$Hollows" 58 ⟨"WeighedHall$Hollows", "turn", "(III)V"⟩ ∈ GT := gt_mem 1282 (by decide +kernel) rfl
theorem wg1164 : Cond.instanceMethod ⟨"WeighedHall$Hollows", "turn", "(III)V"⟩ ∈ GT := gt_mem 1284 (by decide +kernel) rfl
theorem ws79 : Cond.selects "WeighedHall$Hollows" ⟨"WeighedHall$Hollows", "turn", "(III)V"⟩ ⟨"WeighedHall$Hollows", "turn", "(III)V"⟩ ∈ GT := gt_mem 79 (by decide +kernel) rfl
theorem wg366 : Cond.fieldLink "WeighedHall$Hollows" 62 "WeighedHall$Hollows" "known" "Z" ∈ GT := gt_mem 486 (by decide +kernel) rfl
theorem d_X4_find_0 : decode cX4_find 0 = .ok (.aload_n 0, 1) := by decide +kernel
theorem d_X4_find_1 : decode cX4_find 1 = .ok (.iconst 0, 1) := by decide +kernel
theorem d_X4_find_2 : decode cX4_find 2 = .ok (.putfield 18, 3) := by decide +kernel
theorem d_X4_find_5 : decode cX4_find 5 = .ok (.aload_n 0, 1) := by decide +kernel
theorem d_X4_find_6 : decode cX4_find 6 = .ok (.aload_n 1, 1) := by decide +kernel
theorem d_X4_find_7 : decode cX4_find 7 = .ok (.invokevirtual 22, 3) := by decide +kernel
theorem d_X4_find_10 : decode cX4_find 10 = .ok (.putfield 28, 3) := by decide +kernel
theorem d_X4_find_13 : decode cX4_find 13 = .ok (.aload_n 0, 1) := by decide +kernel
theorem d_X4_find_14 : decode cX4_find 14 = .ok (.iconst 0, 1) := by decide +kernel
theorem d_X4_find_15 : decode cX4_find 15 = .ok (.putfield 31, 3) := by decide +kernel
theorem d_X4_find_18 : decode cX4_find 18 = .ok (.aload_n 0, 1) := by decide +kernel
theorem d_X4_find_19 : decode cX4_find 19 = .ok (.aload_n 1, 1) := by decide +kernel
theorem d_X4_find_20 : decode cX4_find 20 = .ok (.aload_n 2, 1) := by decide +kernel
theorem d_X4_find_21 : decode cX4_find 21 = .ok (.invokevirtual 34, 3) := by decide +kernel
theorem d_X4_find_24 : decode cX4_find 24 = .ok (.iconst 0, 1) := by decide +kernel
theorem d_X4_find_25 : decode cX4_find 25 = .ok (.istore_n 3, 1) := by decide +kernel
theorem d_X4_find_26 : decode cX4_find 26 = .ok (.aload_n 0, 1) := by decide +kernel
theorem d_X4_find_27 : decode cX4_find 27 = .ok (.iload_n 3, 1) := by decide +kernel
theorem d_X4_find_28 : decode cX4_find 28 = .ok (.aload_n 2, 1) := by decide +kernel
theorem d_X4_find_29 : decode cX4_find 29 = .ok (.getfield 38, 3) := by decide +kernel
theorem d_X4_find_32 : decode cX4_find 32 = .ok (.invokevirtual 43, 3) := by decide +kernel
theorem d_X4_find_35 : decode cX4_find 35 = .ok (.iconst 1, 1) := by decide +kernel
theorem d_X4_find_36 : decode cX4_find 36 = .ok (.istore 4, 2) := by decide +kernel
theorem d_X4_find_38 : decode cX4_find 38 = .ok (.iload 4, 2) := by decide +kernel
theorem d_X4_find_40 : decode cX4_find 40 = .ok (.iconst 1, 1) := by decide +kernel
theorem d_X4_find_41 : decode cX4_find 41 = .ok (.aload_n 1, 1) := by decide +kernel
theorem d_X4_find_42 : decode cX4_find 42 = .ok (.getfield 47, 3) := by decide +kernel
theorem d_X4_find_45 : decode cX4_find 45 = .ok (.ishl, 1) := by decide +kernel
theorem d_X4_find_46 : decode cX4_find 46 = .ok (.if_icmp .ge 56, 3) := by decide +kernel
theorem d_X4_find_49 : decode cX4_find 49 = .ok (.iload 4, 2) := by decide +kernel
theorem d_X4_find_51 : decode cX4_find 51 = .ok (.invokestatic 50, 3) := by decide +kernel
theorem d_X4_find_54 : decode cX4_find 54 = .ok (.istore 5, 2) := by decide +kernel
theorem d_X4_find_56 : decode cX4_find 56 = .ok (.iload_n 3, 1) := by decide +kernel
theorem d_X4_find_57 : decode cX4_find 57 = .ok (.iconst 1, 1) := by decide +kernel
theorem d_X4_find_58 : decode cX4_find 58 = .ok (.iload 5, 2) := by decide +kernel
theorem d_X4_find_60 : decode cX4_find 60 = .ok (.ishl, 1) := by decide +kernel
theorem d_X4_find_61 : decode cX4_find 61 = .ok (.ixor, 1) := by decide +kernel
theorem d_X4_find_62 : decode cX4_find 62 = .ok (.istore_n 3, 1) := by decide +kernel
theorem d_X4_find_63 : decode cX4_find 63 = .ok (.aload_n 0, 1) := by decide +kernel
theorem d_X4_find_64 : decode cX4_find 64 = .ok (.iload 5, 2) := by decide +kernel
theorem d_X4_find_66 : decode cX4_find 66 = .ok (.iload 5, 2) := by decide +kernel
theorem d_X4_find_68 : decode cX4_find 68 = .ok (.iload_n 3, 1) := by decide +kernel
theorem d_X4_find_69 : decode cX4_find 69 = .ok (.invokestatic 54, 3) := by decide +kernel
theorem d_X4_find_72 : decode cX4_find 72 = .ok (.ifCond .eq 7, 3) := by decide +kernel
theorem d_X4_find_75 : decode cX4_find 75 = .ok (.iconst 1, 1) := by decide +kernel
theorem d_X4_find_76 : decode cX4_find 76 = .ok (.goto 4, 3) := by decide +kernel
theorem d_X4_find_79 : decode cX4_find 79 = .ok (.iconst (-1), 1) := by decide +kernel
theorem d_X4_find_80 : decode cX4_find 80 = .ok (.aload_n 2, 1) := by decide +kernel
theorem d_X4_find_81 : decode cX4_find 81 = .ok (.getfield 38, 3) := by decide +kernel
theorem d_X4_find_84 : decode cX4_find 84 = .ok (.invokevirtual 58, 3) := by decide +kernel
theorem d_X4_find_87 : decode cX4_find 87 = .ok (.aload_n 0, 1) := by decide +kernel
theorem d_X4_find_88 : decode cX4_find 88 = .ok (.iload_n 3, 1) := by decide +kernel
theorem d_X4_find_89 : decode cX4_find 89 = .ok (.aload_n 2, 1) := by decide +kernel
theorem d_X4_find_90 : decode cX4_find 90 = .ok (.getfield 38, 3) := by decide +kernel
theorem d_X4_find_93 : decode cX4_find 93 = .ok (.invokevirtual 43, 3) := by decide +kernel
theorem d_X4_find_96 : decode cX4_find 96 = .ok (.iinc 4 1, 3) := by decide +kernel
theorem d_X4_find_99 : decode cX4_find 99 = .ok (.goto (-61), 3) := by decide +kernel
theorem d_X4_find_102 : decode cX4_find 102 = .ok (.aload_n 0, 1) := by decide +kernel
theorem d_X4_find_103 : decode cX4_find 103 = .ok (.iconst 1, 1) := by decide +kernel
theorem d_X4_find_104 : decode cX4_find 104 = .ok (.putfield 62, 3) := by decide +kernel
theorem d_X4_find_107 : decode cX4_find 107 = .ok (.return_, 1) := by decide +kernel
set_option maxRecDepth 100000 in
theorem L_X4_find {p : Program} {l : Launch} {e : Env} {s : State} {m : MethodId} {args : Array Value} {below : List Frame} {meth : Method} {c : Code} {D : va_G} {ca : Nat → ClassId} {ad sx sy : Nat → Nat} {A : Nat → Prop} {Q : QT} (C0 : CX p s m args meth c cX4_find 6 yX4_find.cls D ca ad A) (hE : EX sx sy A s s.heap) (hr : meth.sig.returnType = none) (hno : ∀ x ∈ c.exceptionTable.toList, False) : R_X4_find (JW p l e { frames := 13, cells := 0, slots := 6 * 0, locals := 266 } s m args below meth c 6 D ca ad A (vx_MQ below (Qn D ca ad A Q) (Qx D ca ad A Q) args s 0 (6 * 0) A) gz gz true) Q := ⟨s_aln C0 (d_X4_find_0) hgz (s_ic C0 (d_X4_find_1) hgz (s_pi C0 (j := 1) (c0 := 4) rfl gX4 tyX4_ok nmX4 (by decide) rfl (by decide) rfl rfl wg368 (d_X4_find_2) hgz (s_aln C0 (d_X4_find_5) hgz (s_aln C0 (d_X4_find_6) hgz (s_callVN C0 hE (c_X6_allThings l) wg1146 wn1143 wg1145 ws75 wg3 ⟨by decide, by decide⟩ (by decide +kernel) (c0 := 6) rfl ⟨by decide, by decide⟩ ⟨by decide, by decide⟩ (d_X4_find_7) (fun x hx => (hno x hx).elim) ⟨by decide, by decide⟩ ⟨by decide, by decide⟩ (s_pi C0 (j := 2) (c0 := 4) rfl gX4 tyX4_ok nmX4 (by decide) rfl (by decide) rfl rfl wg370 (d_X4_find_10) hgz (s_aln C0 (d_X4_find_13) hgz (s_ic C0 (d_X4_find_14) hgz (s_pi C0 (j := 3) (c0 := 4) rfl gX4 tyX4_ok nmX4 (by decide) rfl (by decide) rfl rfl wg372 (d_X4_find_15) hgz (s_aln C0 (d_X4_find_18) hgz (s_aln C0 (d_X4_find_19) hgz (s_aln C0 (d_X4_find_20) hgz (s_callV C0 hE (c_X4_weighAll l) wg1150 wg1147 wg1149 ws76 wg11 ⟨by decide, by decide⟩ (by decide +kernel) (c0 := 4) rfl ⟨by decide, by decide⟩ ⟨by decide, by decide⟩ (d_X4_find_21) (fun x hx => (hno x hx).elim) ⟨by decide, by decide⟩ ⟨by decide, by decide⟩ (s_ic C0 (d_X4_find_24) hgz (s_isn C0 (d_X4_find_25) hgz (s_aln C0 (d_X4_find_26) hgz (s_iln C0 (d_X4_find_27) hgz (s_aln C0 (d_X4_find_28) hgz (s_giN C0 (j := 0) (c0 := 0) rfl gX0 (by decide) rfl (by decide) wn201 (d_X4_find_29) hgz (s_callV C0 hE (c_X4_lookAt l) wg1155 wg1152 wg1154 ws77 wg11 ⟨by decide, by decide⟩ (by decide +kernel) (c0 := 4) rfl ⟨by decide, by decide⟩ ⟨by decide, by decide⟩ (d_X4_find_32) (fun x hx => (hno x hx).elim) ⟨by decide, by decide⟩ ⟨by decide, by decide⟩ (s_ic C0 (d_X4_find_35) hgz (s_is C0 (d_X4_find_36) hgz (fun _ _ _ h => h)) (okn rfl)))))))) (okn rfl))))))) (okn rfl)))))))) (okn rfl)),
  s_il C0 (d_X4_find_38) hgz (s_ic C0 (d_X4_find_40) hgz (s_aln C0 (d_X4_find_41) hgz (s_giN C0 (j := 3) (c0 := 6) rfl gX6 (by decide) rfl (by decide) wn86 (d_X4_find_42) hgz (s_shl C0 (d_X4_find_45) hgz (s_cge C0 (d_X4_find_46) (by decide) hgz hgz (fun _ _ _ h => h) (s_il C0 (d_X4_find_49) hgz (s_callSN C0 hE (c_X10_lowestOf l) wg478 wn1161 wg477 wg1 ⟨by decide, by decide⟩ (by decide +kernel) ⟨by decide, by decide⟩ ⟨by decide, by decide⟩ (d_X4_find_51) (fun x hx => (hno x hx).elim) ⟨by decide, by decide⟩ ⟨by decide, by decide⟩ (s_is C0 (d_X4_find_54) hgz (s_iln C0 (d_X4_find_56) hgz (s_ic C0 (d_X4_find_57) hgz (s_il C0 (d_X4_find_58) hgz (s_shl C0 (d_X4_find_60) hgz (s_xor C0 (d_X4_find_61) hgz (s_isn C0 (d_X4_find_62) hgz (s_aln C0 (d_X4_find_63) hgz (s_il C0 (d_X4_find_64) hgz (s_il C0 (d_X4_find_66) hgz (s_iln C0 (d_X4_find_68) hgz (s_callSN C0 hE (c_X10_isIn l) wg491 wn1151 wg490 wg1 ⟨by decide, by decide⟩ (by decide +kernel) ⟨by decide, by decide⟩ ⟨by decide, by decide⟩ (d_X4_find_69) (fun x hx => (hno x hx).elim) ⟨by decide, by decide⟩ ⟨by decide, by decide⟩ (s_zeq C0 (d_X4_find_72) (by decide) hgz hgz (fun _ _ _ h => h) (s_ic C0 (d_X4_find_75) hgz (s_goto C0 (tgt := 80) (d_X4_find_76) (by decide) hgz (fun _ _ _ h => h)) (okn rfl)))))))))))) (okn rfl)))))))))) (okn rfl)),
  s_ic C0 (d_X4_find_79) hgz (fun _ _ _ h => h) (okn rfl),
  s_aln C0 (d_X4_find_80) hgz (s_giN C0 (j := 0) (c0 := 0) rfl gX0 (by decide) rfl (by decide) wn201 (d_X4_find_81) hgz (s_callV C0 hE (c_X4_turn l) wg1165 wg1162 wg1164 ws79 wg11 ⟨by decide, by decide⟩ (by decide +kernel) (c0 := 4) rfl ⟨by decide, by decide⟩ ⟨by decide, by decide⟩ (d_X4_find_84) (fun x hx => (hno x hx).elim) ⟨by decide, by decide⟩ ⟨by decide, by decide⟩ (s_aln C0 (d_X4_find_87) hgz (s_iln C0 (d_X4_find_88) hgz (s_aln C0 (d_X4_find_89) hgz (s_giN C0 (j := 0) (c0 := 0) rfl gX0 (by decide) rfl (by decide) wn201 (d_X4_find_90) hgz (s_callV C0 hE (c_X4_lookAt l) wg1155 wg1152 wg1154 ws77 wg11 ⟨by decide, by decide⟩ (by decide +kernel) (c0 := 4) rfl ⟨by decide, by decide⟩ ⟨by decide, by decide⟩ (d_X4_find_93) (fun x hx => (hno x hx).elim) ⟨by decide, by decide⟩ ⟨by decide, by decide⟩ (s_inc C0 (d_X4_find_96) hgz (s_goto C0 (tgt := 38) (d_X4_find_99) (by decide) hgz (fun _ _ _ h => h)))))))))),
  s_aln C0 (d_X4_find_102) hgz (s_ic C0 (d_X4_find_103) hgz (s_pz C0 (j := 0) (c0 := 4) rfl gX4 tyX4_ok nmX4 (by decide) rfl (by decide) rfl rfl wg366 (d_X4_find_104) hgz (s_rv C0 hr (d_X4_find_107) ⟨by decide, by decide⟩)) (okn rfl))⟩
theorem c_X4_find (l : Launch) : Ctr l yX4_find cX4_find 6 none 13 266 0 (fun sx => (nf G_X4_find)) := ctr_of (by decide) gz gz ⟨rfl, rfl⟩ (fun p e s m args below meth c D ca ad sx sy A Q as M C0 hE hr hno hF => P_X4_find (L_X4_find C0 hE hr hno) hF)
theorem wg172 : Cond.fieldLink "WeighedHall$Loans" 24 "WeighedHall$Loans" "number" "I" ∈ GT := gt_mem 292 (by decide +kernel) rfl
theorem d_X5_clear_0 : decode cX5_clear 0 = .ok (.aload_n 0, 1) := by decide +kernel
theorem d_X5_clear_1 : decode cX5_clear 1 = .ok (.iconst 0, 1) := by decide +kernel
theorem d_X5_clear_2 : decode cX5_clear 2 = .ok (.putfield 24, 3) := by decide +kernel
theorem d_X5_clear_5 : decode cX5_clear 5 = .ok (.return_, 1) := by decide +kernel
set_option maxRecDepth 100000 in
theorem L_X5_clear {p : Program} {l : Launch} {e : Env} {s : State} {m : MethodId} {args : Array Value} {below : List Frame} {meth : Method} {c : Code} {D : va_G} {ca : Nat → ClassId} {ad sx sy : Nat → Nat} {A : Nat → Prop} {Q : QT} (C0 : CX p s m args meth c cX5_clear 1 yX5_clear.cls D ca ad A) (hE : EX sx sy A s s.heap) (hr : meth.sig.returnType = none) (hno : ∀ x ∈ c.exceptionTable.toList, False) : R_X5_clear (JW p l e { frames := 10, cells := 0, slots := 6 * 0, locals := 200 } s m args below meth c 1 D ca ad A (vx_MQ below (Qn D ca ad A Q) (Qx D ca ad A Q) args s 0 (6 * 0) A) gz gz true) Q := s_aln C0 (d_X5_clear_0) hgz (s_ic C0 (d_X5_clear_1) hgz (s_pi C0 (j := 0) (c0 := 5) rfl gX5 tyX5_ok nmX5 (by decide) rfl (by decide) rfl rfl wg172 (d_X5_clear_2) hgz (s_rv C0 hr (d_X5_clear_5) ⟨by decide, by decide⟩)) (okn rfl))
theorem c_X5_clear (l : Launch) : Ctr l yX5_clear cX5_clear 1 none 10 200 0 (fun sx => (nf G_X5_clear)) := ctr_of (by decide) gz gz ⟨rfl, rfl⟩ (fun p e s m args below meth c D ca ad sx sy A Q as M C0 hE hr hno hF => P_X5_clear (L_X5_clear C0 hE hr hno) hF)
theorem wg45 : Cond.fieldLink "WeighedHall$Tape" 15 "WeighedHall$Tape" "faultKind" "I" ∈ GT := gt_mem 165 (by decide +kernel) rfl
theorem d_X9_isSound_0 : decode cX9_isSound 0 = .ok (.aload_n 0, 1) := by decide +kernel
theorem d_X9_isSound_1 : decode cX9_isSound 1 = .ok (.getfield 15, 3) := by decide +kernel
theorem d_X9_isSound_4 : decode cX9_isSound 4 = .ok (.ifCond .ne 7, 3) := by decide +kernel
theorem d_X9_isSound_7 : decode cX9_isSound 7 = .ok (.iconst 1, 1) := by decide +kernel
theorem d_X9_isSound_8 : decode cX9_isSound 8 = .ok (.goto 4, 3) := by decide +kernel
theorem d_X9_isSound_11 : decode cX9_isSound 11 = .ok (.iconst 0, 1) := by decide +kernel
theorem d_X9_isSound_12 : decode cX9_isSound 12 = .ok (.ireturn, 1) := by decide +kernel
set_option maxRecDepth 100000 in
theorem L_X9_isSound {p : Program} {l : Launch} {e : Env} {s : State} {m : MethodId} {args : Array Value} {below : List Frame} {meth : Method} {c : Code} {D : va_G} {ca : Nat → ClassId} {ad sx sy : Nat → Nat} {A : Nat → Prop} {Q : QT} (C0 : CX p s m args meth c cX9_isSound 1 yX9_isSound.cls D ca ad A) (hE : EX sx sy A s s.heap) (hr : meth.sig.returnType = (some .boolean)) (hno : ∀ x ∈ c.exceptionTable.toList, False) : R_X9_isSound (JW p l e { frames := 10, cells := 0, slots := 6 * 0, locals := 200 } s m args below meth c 1 D ca ad A (vx_MQ below (Qn D ca ad A Q) (Qx D ca ad A Q) args s 0 (6 * 0) A) gz gz true) Q := ⟨s_aln C0 (d_X9_isSound_0) hgz (s_gi C0 (j := 5) (c0 := 9) rfl gX9 (by decide) rfl (by decide) wg45 (d_X9_isSound_1) hgz (s_zne C0 (d_X9_isSound_4) (by decide) hgz hgz (fun _ _ _ h => h) (s_ic C0 (d_X9_isSound_7) hgz (s_goto C0 (tgt := 12) (d_X9_isSound_8) (by decide) hgz (fun _ _ _ h => h)) (okn rfl)))),
  s_ic C0 (d_X9_isSound_11) hgz (fun _ _ _ h => h) (okn rfl),
  s_rz C0 hr (d_X9_isSound_12) ⟨by decide, by decide⟩⟩
theorem c_X9_isSound (l : Launch) : Ctr l yX9_isSound cX9_isSound 1 (some .boolean) 10 200 0 (fun sx => (nf G_X9_isSound)) := ctr_of (by decide) gz gz ⟨rfl, rfl⟩ (fun p e s m args below meth c D ca ad sx sy A Q as M C0 hE hr hno hF => P_X9_isSound (L_X9_isSound C0 hE hr hno) hF)
theorem wg47 : Cond.fieldLink "WeighedHall$Tape" 19 "WeighedHall$Tape" "faultPlace" "I" ∈ GT := gt_mem 167 (by decide +kernel) rfl
theorem wg44 : Cond.fieldLink "WeighedHall$Tape" 37 "WeighedHall$Tape" "tokenFrom" "I" ∈ GT := gt_mem 164 (by decide +kernel) rfl
theorem wg648 : Cond.code ⟨"WeighedHall$Tape", "isSound", "()Z"⟩ prog_11_method_4_code 1 (Option.some .boolean) ∈ GT := gt_mem 768 (by decide +kernel) rfl
theorem wg645 : Cond.methodLink "WeighedHall$Tape" 40 ⟨"WeighedHall$Tape", "isSound", "()Z"⟩ ∈ GT := gt_mem 765 (by decide +kernel) rfl
theorem wg647 : Cond.instanceMethod ⟨"WeighedHall$Tape", "isSound", "()Z"⟩ ∈ GT := gt_mem 767 (by decide +kernel) rfl
theorem ws18 : Cond.selects "WeighedHall$Tape" ⟨"WeighedHall$Tape", "isSound", "()Z"⟩ ⟨"WeighedHall$Tape", "isSound", "()Z"⟩ ∈ GT := gt_mem 18 (by decide +kernel) rfl
theorem d_X9_refuse_0 : decode cX9_refuse 0 = .ok (.aload_n 0, 1) := by decide +kernel
theorem d_X9_refuse_1 : decode cX9_refuse 1 = .ok (.invokevirtual 40, 3) := by decide +kernel
theorem d_X9_refuse_4 : decode cX9_refuse 4 = .ok (.ifCond .eq 16, 3) := by decide +kernel
theorem d_X9_refuse_7 : decode cX9_refuse 7 = .ok (.aload_n 0, 1) := by decide +kernel
theorem d_X9_refuse_8 : decode cX9_refuse 8 = .ok (.iload_n 1, 1) := by decide +kernel
theorem d_X9_refuse_9 : decode cX9_refuse 9 = .ok (.putfield 15, 3) := by decide +kernel
theorem d_X9_refuse_12 : decode cX9_refuse 12 = .ok (.aload_n 0, 1) := by decide +kernel
theorem d_X9_refuse_13 : decode cX9_refuse 13 = .ok (.aload_n 0, 1) := by decide +kernel
theorem d_X9_refuse_14 : decode cX9_refuse 14 = .ok (.getfield 37, 3) := by decide +kernel
theorem d_X9_refuse_17 : decode cX9_refuse 17 = .ok (.putfield 19, 3) := by decide +kernel
theorem d_X9_refuse_20 : decode cX9_refuse 20 = .ok (.return_, 1) := by decide +kernel
set_option maxRecDepth 100000 in
theorem L_X9_refuse {p : Program} {l : Launch} {e : Env} {s : State} {m : MethodId} {args : Array Value} {below : List Frame} {meth : Method} {c : Code} {D : va_G} {ca : Nat → ClassId} {ad sx sy : Nat → Nat} {A : Nat → Prop} {Q : QT} (C0 : CX p s m args meth c cX9_refuse 2 yX9_refuse.cls D ca ad A) (hE : EX sx sy A s s.heap) (hr : meth.sig.returnType = none) (hno : ∀ x ∈ c.exceptionTable.toList, False) : R_X9_refuse (JW p l e { frames := 11, cells := 0, slots := 6 * 0, locals := 220 } s m args below meth c 2 D ca ad A (vx_MQ below (Qn D ca ad A Q) (Qx D ca ad A Q) args s 0 (6 * 0) A) gz gz true) Q := ⟨s_aln C0 (d_X9_refuse_0) hgz (s_callV C0 hE (c_X9_isSound l) wg648 wg645 wg647 ws18 wg2 ⟨by decide, by decide⟩ (by decide +kernel) (c0 := 9) rfl ⟨by decide, by decide⟩ ⟨by decide, by decide⟩ (d_X9_refuse_1) (fun x hx => (hno x hx).elim) ⟨by decide, by decide⟩ ⟨by decide, by decide⟩ (s_zeq C0 (d_X9_refuse_4) (by decide) hgz hgz (fun _ _ _ h => h) (s_aln C0 (d_X9_refuse_7) hgz (s_iln C0 (d_X9_refuse_8) hgz (s_pi C0 (j := 5) (c0 := 9) rfl gX9 tyX9_ok nmX9 (by decide) rfl (by decide) rfl rfl wg45 (d_X9_refuse_9) hgz (s_aln C0 (d_X9_refuse_12) hgz (s_aln C0 (d_X9_refuse_13) hgz (s_gi C0 (j := 4) (c0 := 9) rfl gX9 (by decide) rfl (by decide) wg44 (d_X9_refuse_14) hgz (s_pi C0 (j := 6) (c0 := 9) rfl gX9 tyX9_ok nmX9 (by decide) rfl (by decide) rfl rfl wg47 (d_X9_refuse_17) hgz (fun _ _ _ h => h)))))))))),
  s_rv C0 hr (d_X9_refuse_20) ⟨by decide, by decide⟩⟩
theorem c_X9_refuse (l : Launch) : Ctr l yX9_refuse cX9_refuse 2 none 11 220 0 (fun sx => (nf G_X9_refuse)) := ctr_of (by decide) gz gz ⟨rfl, rfl⟩ (fun p e s m args below meth c D ca ad sx sy A Q as M C0 hE hr hno hF => P_X9_refuse (L_X9_refuse C0 hE hr hno) hF)
theorem wg43 : Cond.fieldLink "WeighedHall$Tape" 34 "WeighedHall$Tape" "place" "I" ∈ GT := gt_mem 163 (by decide +kernel) rfl
theorem wg42 : Cond.fieldLink "WeighedHall$Tape" 31 "WeighedHall$Tape" "end" "I" ∈ GT := gt_mem 162 (by decide +kernel) rfl
theorem d_X9_skipBlanks_0 : decode cX9_skipBlanks 0 = .ok (.aload_n 0, 1) := by decide +kernel
theorem d_X9_skipBlanks_1 : decode cX9_skipBlanks 1 = .ok (.getfield 34, 3) := by decide +kernel
theorem d_X9_skipBlanks_4 : decode cX9_skipBlanks 4 = .ok (.aload_n 0, 1) := by decide +kernel
theorem d_X9_skipBlanks_5 : decode cX9_skipBlanks 5 = .ok (.getfield 31, 3) := by decide +kernel
theorem d_X9_skipBlanks_8 : decode cX9_skipBlanks 8 = .ok (.if_icmp .ge 30, 3) := by decide +kernel
theorem d_X9_skipBlanks_11 : decode cX9_skipBlanks 11 = .ok (.aload_n 0, 1) := by decide +kernel
theorem d_X9_skipBlanks_12 : decode cX9_skipBlanks 12 = .ok (.getfield 9, 3) := by decide +kernel
theorem d_X9_skipBlanks_15 : decode cX9_skipBlanks 15 = .ok (.aload_n 0, 1) := by decide +kernel
theorem d_X9_skipBlanks_16 : decode cX9_skipBlanks 16 = .ok (.getfield 34, 3) := by decide +kernel
theorem d_X9_skipBlanks_19 : decode cX9_skipBlanks 19 = .ok (.baload, 1) := by decide +kernel
theorem d_X9_skipBlanks_20 : decode cX9_skipBlanks 20 = .ok (.bipush 32, 2) := by decide +kernel
theorem d_X9_skipBlanks_22 : decode cX9_skipBlanks 22 = .ok (.if_icmp .ne 16, 3) := by decide +kernel
theorem d_X9_skipBlanks_25 : decode cX9_skipBlanks 25 = .ok (.aload_n 0, 1) := by decide +kernel
theorem d_X9_skipBlanks_26 : decode cX9_skipBlanks 26 = .ok (.dup, 1) := by decide +kernel
theorem d_X9_skipBlanks_27 : decode cX9_skipBlanks 27 = .ok (.getfield 34, 3) := by decide +kernel
theorem d_X9_skipBlanks_30 : decode cX9_skipBlanks 30 = .ok (.iconst 1, 1) := by decide +kernel
theorem d_X9_skipBlanks_31 : decode cX9_skipBlanks 31 = .ok (.iadd, 1) := by decide +kernel
theorem d_X9_skipBlanks_32 : decode cX9_skipBlanks 32 = .ok (.putfield 34, 3) := by decide +kernel
theorem d_X9_skipBlanks_35 : decode cX9_skipBlanks 35 = .ok (.goto (-35), 3) := by decide +kernel
theorem d_X9_skipBlanks_38 : decode cX9_skipBlanks 38 = .ok (.aload_n 0, 1) := by decide +kernel
theorem d_X9_skipBlanks_39 : decode cX9_skipBlanks 39 = .ok (.aload_n 0, 1) := by decide +kernel
theorem d_X9_skipBlanks_40 : decode cX9_skipBlanks 40 = .ok (.getfield 34, 3) := by decide +kernel
theorem d_X9_skipBlanks_43 : decode cX9_skipBlanks 43 = .ok (.putfield 37, 3) := by decide +kernel
theorem d_X9_skipBlanks_46 : decode cX9_skipBlanks 46 = .ok (.return_, 1) := by decide +kernel
set_option maxRecDepth 100000 in
theorem L_X9_skipBlanks {p : Program} {l : Launch} {e : Env} {s : State} {m : MethodId} {args : Array Value} {below : List Frame} {meth : Method} {c : Code} {D : va_G} {ca : Nat → ClassId} {ad sx sy : Nat → Nat} {A : Nat → Prop} {Q : QT} (C0 : CX p s m args meth c cX9_skipBlanks 1 yX9_skipBlanks.cls D ca ad A) (hE : EX sx sy A s s.heap) (hr : meth.sig.returnType = none) (hno : ∀ x ∈ c.exceptionTable.toList, False) : R_X9_skipBlanks (JW p l e { frames := 10, cells := 0, slots := 6 * 0, locals := 200 } s m args below meth c 1 D ca ad A (vx_MQ below (Qn D ca ad A Q) (Qx D ca ad A Q) args s 0 (6 * 0) A) gz gz true) Q := ⟨s_aln C0 (d_X9_skipBlanks_0) hgz (s_gi C0 (j := 3) (c0 := 9) rfl gX9 (by decide) rfl (by decide) wg43 (d_X9_skipBlanks_1) hgz (s_aln C0 (d_X9_skipBlanks_4) hgz (s_gi C0 (j := 2) (c0 := 9) rfl gX9 (by decide) rfl (by decide) wg42 (d_X9_skipBlanks_5) hgz (s_cge C0 (d_X9_skipBlanks_8) (by decide) hgz hgz (fun _ _ _ h => h) (s_aln C0 (d_X9_skipBlanks_11) hgz (s_gr C0 (j := 0) (c0 := 9) rfl gX9 (by decide) rfl rfl wg39 (d_X9_skipBlanks_12) hgz (s_aln C0 (d_X9_skipBlanks_15) hgz (s_gi C0 (j := 3) (c0 := 9) rfl gX9 (by decide) rfl (by decide) wg43 (d_X9_skipBlanks_16) hgz (s_ba C0 (d_X9_skipBlanks_19) hgz (s_bi C0 (d_X9_skipBlanks_20) hgz (s_cne C0 (d_X9_skipBlanks_22) (by decide) hgz hgz (fun _ _ _ h => h) (s_aln C0 (d_X9_skipBlanks_25) hgz (s_dup C0 (d_X9_skipBlanks_26) hgz (s_gi C0 (j := 3) (c0 := 9) rfl gX9 (by decide) rfl (by decide) wg43 (d_X9_skipBlanks_27) hgz (s_ic C0 (d_X9_skipBlanks_30) hgz (s_add C0 (d_X9_skipBlanks_31) hgz (s_pi C0 (j := 3) (c0 := 9) rfl gX9 tyX9_ok nmX9 (by decide) rfl (by decide) rfl rfl wg43 (d_X9_skipBlanks_32) hgz (s_goto C0 (tgt := 0) (d_X9_skipBlanks_35) (by decide) hgz (fun _ _ _ h => h)))) (okn rfl)))))) (okn rfl) rfl)))))))))),
  s_aln C0 (d_X9_skipBlanks_38) hgz (s_aln C0 (d_X9_skipBlanks_39) hgz (s_gi C0 (j := 3) (c0 := 9) rfl gX9 (by decide) rfl (by decide) wg43 (d_X9_skipBlanks_40) hgz (s_pi C0 (j := 4) (c0 := 9) rfl gX9 tyX9_ok nmX9 (by decide) rfl (by decide) rfl rfl wg44 (d_X9_skipBlanks_43) hgz (s_rv C0 hr (d_X9_skipBlanks_46) ⟨by decide, by decide⟩))))⟩
theorem c_X9_skipBlanks (l : Launch) : Ctr l yX9_skipBlanks cX9_skipBlanks 1 none 10 200 0 (fun sx => (nf G_X9_skipBlanks)) := ctr_of (by decide) gz gz ⟨rfl, rfl⟩ (fun p e s m args below meth c D ca ad sx sy A Q as M C0 hE hr hno hF => P_X9_skipBlanks (L_X9_skipBlanks C0 hE hr hno) hF)
theorem wg652 : Cond.code ⟨"WeighedHall$Tape", "skipBlanks", "()V"⟩ prog_11_method_6_code 1 (Option.none : Option FieldType) ∈ GT := gt_mem 772 (by decide +kernel) rfl
theorem wg649 : Cond.methodLink "WeighedHall$Tape" 44 ⟨"WeighedHall$Tape", "skipBlanks", "()V"⟩ ∈ GT := gt_mem 769 (by decide +kernel) rfl
theorem wg651 : Cond.instanceMethod ⟨"WeighedHall$Tape", "skipBlanks", "()V"⟩ ∈ GT := gt_mem 771 (by decide +kernel) rfl
theorem ws19 : Cond.selects "WeighedHall$Tape" ⟨"WeighedHall$Tape", "skipBlanks", "()V"⟩ ⟨"WeighedHall$Tape", "skipBlanks", "()V"⟩ ∈ GT := gt_mem 19 (by decide +kernel) rfl
theorem wg634 : Cond.methodLink "WeighedHall$Tape" 25 ⟨"java/lang/Math", "min", "(II)I"⟩ ∈ GT := gt_mem 754 (by decide +kernel) rfl
theorem wg729 : Cond.constant "WeighedHall$Tape" 57 1000000 ∈ GT := gt_mem 849 (by decide +kernel) rfl
theorem wg720 : Cond.code ⟨"WeighedHall$Tape", "refuse", "(I)V"⟩ prog_11_method_5_code 2 (Option.none : Option FieldType) ∈ GT := gt_mem 840 (by decide +kernel) rfl
theorem wg730 : Cond.methodLink "WeighedHall$Tape" 58 ⟨"WeighedHall$Tape", "refuse", "(I)V"⟩ ∈ GT := gt_mem 850 (by decide +kernel) rfl
theorem wg719 : Cond.instanceMethod ⟨"WeighedHall$Tape", "refuse", "(I)V"⟩ ∈ GT := gt_mem 839 (by decide +kernel) rfl
theorem ws23 : Cond.selects "WeighedHall$Tape" ⟨"WeighedHall$Tape", "refuse", "(I)V"⟩ ⟨"WeighedHall$Tape", "refuse", "(I)V"⟩ ∈ GT := gt_mem 23 (by decide +kernel) rfl
theorem d_X9_readNumber_0 : decode cX9_readNumber 0 = .ok (.aload_n 0, 1) := by decide +kernel
theorem d_X9_readNumber_1 : decode cX9_readNumber 1 = .ok (.invokevirtual 40, 3) := by decide +kernel
theorem d_X9_readNumber_4 : decode cX9_readNumber 4 = .ok (.ifCond .ne 5, 3) := by decide +kernel
theorem d_X9_readNumber_7 : decode cX9_readNumber 7 = .ok (.iconst (-1), 1) := by decide +kernel
theorem d_X9_readNumber_8 : decode cX9_readNumber 8 = .ok (.ireturn, 1) := by decide +kernel
theorem d_X9_readNumber_9 : decode cX9_readNumber 9 = .ok (.aload_n 0, 1) := by decide +kernel
theorem d_X9_readNumber_10 : decode cX9_readNumber 10 = .ok (.invokevirtual 44, 3) := by decide +kernel
theorem d_X9_readNumber_13 : decode cX9_readNumber 13 = .ok (.iconst 0, 1) := by decide +kernel
theorem d_X9_readNumber_14 : decode cX9_readNumber 14 = .ok (.istore_n 3, 1) := by decide +kernel
theorem d_X9_readNumber_15 : decode cX9_readNumber 15 = .ok (.aload_n 0, 1) := by decide +kernel
theorem d_X9_readNumber_16 : decode cX9_readNumber 16 = .ok (.getfield 34, 3) := by decide +kernel
theorem d_X9_readNumber_19 : decode cX9_readNumber 19 = .ok (.aload_n 0, 1) := by decide +kernel
theorem d_X9_readNumber_20 : decode cX9_readNumber 20 = .ok (.getfield 31, 3) := by decide +kernel
theorem d_X9_readNumber_23 : decode cX9_readNumber 23 = .ok (.if_icmp .ge 67, 3) := by decide +kernel
theorem d_X9_readNumber_26 : decode cX9_readNumber 26 = .ok (.aload_n 0, 1) := by decide +kernel
theorem d_X9_readNumber_27 : decode cX9_readNumber 27 = .ok (.getfield 9, 3) := by decide +kernel
theorem d_X9_readNumber_30 : decode cX9_readNumber 30 = .ok (.aload_n 0, 1) := by decide +kernel
theorem d_X9_readNumber_31 : decode cX9_readNumber 31 = .ok (.getfield 34, 3) := by decide +kernel
theorem d_X9_readNumber_34 : decode cX9_readNumber 34 = .ok (.baload, 1) := by decide +kernel
theorem d_X9_readNumber_35 : decode cX9_readNumber 35 = .ok (.bipush 48, 2) := by decide +kernel
theorem d_X9_readNumber_37 : decode cX9_readNumber 37 = .ok (.if_icmp .lt 53, 3) := by decide +kernel
theorem d_X9_readNumber_40 : decode cX9_readNumber 40 = .ok (.aload_n 0, 1) := by decide +kernel
theorem d_X9_readNumber_41 : decode cX9_readNumber 41 = .ok (.getfield 9, 3) := by decide +kernel
theorem d_X9_readNumber_44 : decode cX9_readNumber 44 = .ok (.aload_n 0, 1) := by decide +kernel
theorem d_X9_readNumber_45 : decode cX9_readNumber 45 = .ok (.getfield 34, 3) := by decide +kernel
theorem d_X9_readNumber_48 : decode cX9_readNumber 48 = .ok (.baload, 1) := by decide +kernel
theorem d_X9_readNumber_49 : decode cX9_readNumber 49 = .ok (.bipush 57, 2) := by decide +kernel
theorem d_X9_readNumber_51 : decode cX9_readNumber 51 = .ok (.if_icmp .gt 39, 3) := by decide +kernel
theorem d_X9_readNumber_54 : decode cX9_readNumber 54 = .ok (.iload_n 3, 1) := by decide +kernel
theorem d_X9_readNumber_55 : decode cX9_readNumber 55 = .ok (.bipush 10, 2) := by decide +kernel
theorem d_X9_readNumber_57 : decode cX9_readNumber 57 = .ok (.imul, 1) := by decide +kernel
theorem d_X9_readNumber_58 : decode cX9_readNumber 58 = .ok (.aload_n 0, 1) := by decide +kernel
theorem d_X9_readNumber_59 : decode cX9_readNumber 59 = .ok (.getfield 9, 3) := by decide +kernel
theorem d_X9_readNumber_62 : decode cX9_readNumber 62 = .ok (.aload_n 0, 1) := by decide +kernel
theorem d_X9_readNumber_63 : decode cX9_readNumber 63 = .ok (.getfield 34, 3) := by decide +kernel
theorem d_X9_readNumber_66 : decode cX9_readNumber 66 = .ok (.baload, 1) := by decide +kernel
theorem d_X9_readNumber_67 : decode cX9_readNumber 67 = .ok (.iadd, 1) := by decide +kernel
theorem d_X9_readNumber_68 : decode cX9_readNumber 68 = .ok (.bipush 48, 2) := by decide +kernel
theorem d_X9_readNumber_70 : decode cX9_readNumber 70 = .ok (.isub, 1) := by decide +kernel
theorem d_X9_readNumber_71 : decode cX9_readNumber 71 = .ok (.ldc 57, 2) := by decide +kernel
theorem d_X9_readNumber_73 : decode cX9_readNumber 73 = .ok (.invokestatic 25, 3) := by decide +kernel
theorem d_X9_readNumber_76 : decode cX9_readNumber 76 = .ok (.istore_n 3, 1) := by decide +kernel
theorem d_X9_readNumber_77 : decode cX9_readNumber 77 = .ok (.aload_n 0, 1) := by decide +kernel
theorem d_X9_readNumber_78 : decode cX9_readNumber 78 = .ok (.dup, 1) := by decide +kernel
theorem d_X9_readNumber_79 : decode cX9_readNumber 79 = .ok (.getfield 34, 3) := by decide +kernel
theorem d_X9_readNumber_82 : decode cX9_readNumber 82 = .ok (.iconst 1, 1) := by decide +kernel
theorem d_X9_readNumber_83 : decode cX9_readNumber 83 = .ok (.iadd, 1) := by decide +kernel
theorem d_X9_readNumber_84 : decode cX9_readNumber 84 = .ok (.putfield 34, 3) := by decide +kernel
theorem d_X9_readNumber_87 : decode cX9_readNumber 87 = .ok (.goto (-72), 3) := by decide +kernel
theorem d_X9_readNumber_90 : decode cX9_readNumber 90 = .ok (.aload_n 0, 1) := by decide +kernel
theorem d_X9_readNumber_91 : decode cX9_readNumber 91 = .ok (.getfield 34, 3) := by decide +kernel
theorem d_X9_readNumber_94 : decode cX9_readNumber 94 = .ok (.aload_n 0, 1) := by decide +kernel
theorem d_X9_readNumber_95 : decode cX9_readNumber 95 = .ok (.getfield 37, 3) := by decide +kernel
theorem d_X9_readNumber_98 : decode cX9_readNumber 98 = .ok (.if_icmp .ne 11, 3) := by decide +kernel
theorem d_X9_readNumber_101 : decode cX9_readNumber 101 = .ok (.aload_n 0, 1) := by decide +kernel
theorem d_X9_readNumber_102 : decode cX9_readNumber 102 = .ok (.iconst 1, 1) := by decide +kernel
theorem d_X9_readNumber_103 : decode cX9_readNumber 103 = .ok (.invokevirtual 58, 3) := by decide +kernel
theorem d_X9_readNumber_106 : decode cX9_readNumber 106 = .ok (.goto 18, 3) := by decide +kernel
theorem d_X9_readNumber_109 : decode cX9_readNumber 109 = .ok (.iload_n 3, 1) := by decide +kernel
theorem d_X9_readNumber_110 : decode cX9_readNumber 110 = .ok (.iload_n 1, 1) := by decide +kernel
theorem d_X9_readNumber_111 : decode cX9_readNumber 111 = .ok (.if_icmp .lt 8, 3) := by decide +kernel
theorem d_X9_readNumber_114 : decode cX9_readNumber 114 = .ok (.iload_n 3, 1) := by decide +kernel
theorem d_X9_readNumber_115 : decode cX9_readNumber 115 = .ok (.iload_n 2, 1) := by decide +kernel
theorem d_X9_readNumber_116 : decode cX9_readNumber 116 = .ok (.if_icmp .le 8, 3) := by decide +kernel
theorem d_X9_readNumber_119 : decode cX9_readNumber 119 = .ok (.aload_n 0, 1) := by decide +kernel
theorem d_X9_readNumber_120 : decode cX9_readNumber 120 = .ok (.iconst 2, 1) := by decide +kernel
theorem d_X9_readNumber_121 : decode cX9_readNumber 121 = .ok (.invokevirtual 58, 3) := by decide +kernel
theorem d_X9_readNumber_124 : decode cX9_readNumber 124 = .ok (.iload_n 3, 1) := by decide +kernel
theorem d_X9_readNumber_125 : decode cX9_readNumber 125 = .ok (.ireturn, 1) := by decide +kernel
set_option maxRecDepth 100000 in
theorem L_X9_readNumber {p : Program} {l : Launch} {e : Env} {s : State} {m : MethodId} {args : Array Value} {below : List Frame} {meth : Method} {c : Code} {D : va_G} {ca : Nat → ClassId} {ad sx sy : Nat → Nat} {A : Nat → Prop} {Q : QT} (C0 : CX p s m args meth c cX9_readNumber 4 yX9_readNumber.cls D ca ad A) (hE : EX sx sy A s s.heap) (hr : meth.sig.returnType = (some .int)) (hno : ∀ x ∈ c.exceptionTable.toList, False) : R_X9_readNumber (JW p l e { frames := 12, cells := 0, slots := 6 * 0, locals := 241 } s m args below meth c 4 D ca ad A (vx_MQ below (Qn D ca ad A Q) (Qx D ca ad A Q) args s 0 (6 * 0) A) gz gz true) Q := ⟨s_aln C0 (d_X9_readNumber_0) hgz (s_callV C0 hE (c_X9_isSound l) wg648 wg645 wg647 ws18 wg2 ⟨by decide, by decide⟩ (by decide +kernel) (c0 := 9) rfl ⟨by decide, by decide⟩ ⟨by decide, by decide⟩ (d_X9_readNumber_1) (fun x hx => (hno x hx).elim) ⟨by decide, by decide⟩ ⟨by decide, by decide⟩ (s_zne C0 (d_X9_readNumber_4) (by decide) hgz hgz (fun _ _ _ h => h) (s_ic C0 (d_X9_readNumber_7) hgz (s_ri C0 hr (d_X9_readNumber_8) ⟨by decide, by decide⟩) (okn rfl)))),
  s_aln C0 (d_X9_readNumber_9) hgz (s_callV C0 hE (c_X9_skipBlanks l) wg652 wg649 wg651 ws19 wg2 ⟨by decide, by decide⟩ (by decide +kernel) (c0 := 9) rfl ⟨by decide, by decide⟩ ⟨by decide, by decide⟩ (d_X9_readNumber_10) (fun x hx => (hno x hx).elim) ⟨by decide, by decide⟩ ⟨by decide, by decide⟩ (s_ic C0 (d_X9_readNumber_13) hgz (s_isn C0 (d_X9_readNumber_14) hgz (fun _ _ _ h => h)) (okn rfl))),
  s_aln C0 (d_X9_readNumber_15) hgz (s_gi C0 (j := 3) (c0 := 9) rfl gX9 (by decide) rfl (by decide) wg43 (d_X9_readNumber_16) hgz (s_aln C0 (d_X9_readNumber_19) hgz (s_gi C0 (j := 2) (c0 := 9) rfl gX9 (by decide) rfl (by decide) wg42 (d_X9_readNumber_20) hgz (s_cge C0 (d_X9_readNumber_23) (by decide) hgz hgz (fun _ _ _ h => h) (s_aln C0 (d_X9_readNumber_26) hgz (s_gr C0 (j := 0) (c0 := 9) rfl gX9 (by decide) rfl rfl wg39 (d_X9_readNumber_27) hgz (s_aln C0 (d_X9_readNumber_30) hgz (s_gi C0 (j := 3) (c0 := 9) rfl gX9 (by decide) rfl (by decide) wg43 (d_X9_readNumber_31) hgz (s_ba C0 (d_X9_readNumber_34) hgz (s_bi C0 (d_X9_readNumber_35) hgz (s_clt C0 (d_X9_readNumber_37) (by decide) hgz hgz (fun _ _ _ h => h) (s_aln C0 (d_X9_readNumber_40) hgz (s_gr C0 (j := 0) (c0 := 9) rfl gX9 (by decide) rfl rfl wg39 (d_X9_readNumber_41) hgz (s_aln C0 (d_X9_readNumber_44) hgz (s_gi C0 (j := 3) (c0 := 9) rfl gX9 (by decide) rfl (by decide) wg43 (d_X9_readNumber_45) hgz (s_ba C0 (d_X9_readNumber_48) hgz (s_bi C0 (d_X9_readNumber_49) hgz (s_cgt C0 (d_X9_readNumber_51) (by decide) hgz hgz (fun _ _ _ h => h) (s_iln C0 (d_X9_readNumber_54) hgz (s_bi C0 (d_X9_readNumber_55) hgz (s_mul C0 (d_X9_readNumber_57) hgz (s_aln C0 (d_X9_readNumber_58) hgz (s_gr C0 (j := 0) (c0 := 9) rfl gX9 (by decide) rfl rfl wg39 (d_X9_readNumber_59) hgz (s_aln C0 (d_X9_readNumber_62) hgz (s_gi C0 (j := 3) (c0 := 9) rfl gX9 (by decide) rfl (by decide) wg43 (d_X9_readNumber_63) hgz (s_ba C0 (d_X9_readNumber_66) hgz (s_add C0 (d_X9_readNumber_67) hgz (s_bi C0 (d_X9_readNumber_68) hgz (s_sub C0 (d_X9_readNumber_70) hgz (s_ldc C0 (n := 1000000) wg729 (d_X9_readNumber_71) hgz (s_callS C0 hE (c_J9_min_7cf53 l) wg636 wg634 wg635 wg17 ⟨by decide, by decide⟩ (by decide +kernel) ⟨by decide, by decide⟩ ⟨by decide, by decide⟩ (d_X9_readNumber_73) (fun x hx => (hno x hx).elim) ⟨by decide, by decide⟩ ⟨by decide, by decide⟩ (s_isn C0 (d_X9_readNumber_76) hgz (s_aln C0 (d_X9_readNumber_77) hgz (s_dup C0 (d_X9_readNumber_78) hgz (s_gi C0 (j := 3) (c0 := 9) rfl gX9 (by decide) rfl (by decide) wg43 (d_X9_readNumber_79) hgz (s_ic C0 (d_X9_readNumber_82) hgz (s_add C0 (d_X9_readNumber_83) hgz (s_pi C0 (j := 3) (c0 := 9) rfl gX9 tyX9_ok nmX9 (by decide) rfl (by decide) rfl rfl wg43 (d_X9_readNumber_84) hgz (s_goto C0 (tgt := 15) (d_X9_readNumber_87) (by decide) hgz (fun _ _ _ h => h)))) (okn rfl))))))) (okn rfl))) (okn rfl) rfl)))))))) (okn rfl) rfl))) (okn rfl) rfl))))))) (okn rfl) rfl)))))))))),
  s_aln C0 (d_X9_readNumber_90) hgz (s_gi C0 (j := 3) (c0 := 9) rfl gX9 (by decide) rfl (by decide) wg43 (d_X9_readNumber_91) hgz (s_aln C0 (d_X9_readNumber_94) hgz (s_gi C0 (j := 4) (c0 := 9) rfl gX9 (by decide) rfl (by decide) wg44 (d_X9_readNumber_95) hgz (s_cne C0 (d_X9_readNumber_98) (by decide) hgz hgz (fun _ _ _ h => h) (s_aln C0 (d_X9_readNumber_101) hgz (s_ic C0 (d_X9_readNumber_102) hgz (s_callV C0 hE (c_X9_refuse l) wg720 wg730 wg719 ws23 wg2 ⟨by decide, by decide⟩ (by decide +kernel) (c0 := 9) rfl ⟨by decide, by decide⟩ ⟨by decide, by decide⟩ (d_X9_readNumber_103) (fun x hx => (hno x hx).elim) ⟨by decide, by decide⟩ ⟨by decide, by decide⟩ (s_goto C0 (tgt := 124) (d_X9_readNumber_106) (by decide) hgz (fun _ _ _ h => h))) (okn rfl))))))),
  s_iln C0 (d_X9_readNumber_109) hgz (s_iln C0 (d_X9_readNumber_110) hgz (s_clt C0 (d_X9_readNumber_111) (by decide) hgz hgz (fun _ _ _ h => h) (s_iln C0 (d_X9_readNumber_114) hgz (s_iln C0 (d_X9_readNumber_115) hgz (s_cle C0 (d_X9_readNumber_116) (by decide) hgz hgz (fun _ _ _ h => h) (fun _ _ _ h => h)))))),
  s_aln C0 (d_X9_readNumber_119) hgz (s_ic C0 (d_X9_readNumber_120) hgz (s_callV C0 hE (c_X9_refuse l) wg720 wg730 wg719 ws23 wg2 ⟨by decide, by decide⟩ (by decide +kernel) (c0 := 9) rfl ⟨by decide, by decide⟩ ⟨by decide, by decide⟩ (d_X9_readNumber_121) (fun x hx => (hno x hx).elim) ⟨by decide, by decide⟩ ⟨by decide, by decide⟩ (fun _ _ _ h => h)) (okn rfl)),
  s_iln C0 (d_X9_readNumber_124) hgz (s_ri C0 hr (d_X9_readNumber_125) ⟨by decide, by decide⟩)⟩
theorem c_X9_readNumber (l : Launch) : Ctr l yX9_readNumber cX9_readNumber 4 (some .int) 12 241 0 (fun sx => (nf G_X9_readNumber)) := ctr_of (by decide) gz gz ⟨rfl, rfl⟩ (fun p e s m args below meth c D ca ad sx sy A Q as M C0 hE hr hno hF => P_X9_readNumber (L_X9_readNumber C0 hE hr hno) hF)
theorem wn781 : Cond.methodLinkNest "WeighedHall$Loans" 43 ⟨"WeighedHall$Tape", "refuse", "(I)V"⟩ "WeighedHall" ∈ NT := nt_mem 781 (by decide +kernel) rfl
theorem wn96 : Cond.fieldLinkNest "WeighedHall$Loans" 73 "WeighedHall$Plan" "owner" "[I" "WeighedHall" ∈ NT := nt_mem 96 (by decide +kernel) rfl
theorem wn788 : Cond.methodLinkNest "WeighedHall$Loans" 69 ⟨"WeighedHall$Plan", "hasThing", "(I)Z"⟩ "WeighedHall" ∈ NT := nt_mem 788 (by decide +kernel) rfl
theorem wn787 : Cond.methodLinkNest "WeighedHall$Loans" 66 ⟨"WeighedHall$Tape", "isSound", "()Z"⟩ "WeighedHall" ∈ NT := nt_mem 787 (by decide +kernel) rfl
theorem wg728 : Cond.code ⟨"WeighedHall$Tape", "readNumber", "(II)I"⟩ prog_11_method_10_code 4 (Option.some .int) ∈ GT := gt_mem 848 (by decide +kernel) rfl
theorem wn786 : Cond.methodLinkNest "WeighedHall$Loans" 59 ⟨"WeighedHall$Tape", "readNumber", "(II)I"⟩ "WeighedHall" ∈ NT := nt_mem 786 (by decide +kernel) rfl
theorem wg727 : Cond.instanceMethod ⟨"WeighedHall$Tape", "readNumber", "(II)I"⟩ ∈ GT := gt_mem 847 (by decide +kernel) rfl
theorem ws25 : Cond.selects "WeighedHall$Tape" ⟨"WeighedHall$Tape", "readNumber", "(II)I"⟩ ⟨"WeighedHall$Tape", "readNumber", "(II)I"⟩ ∈ GT := gt_mem 25 (by decide +kernel) rfl
theorem wn76 : Cond.fieldLinkNest "WeighedHall$Loans" 63 "WeighedHall$Plan" "persons" "I" "WeighedHall" ∈ NT := nt_mem 76 (by decide +kernel) rfl
theorem wn88 : Cond.fieldLinkNest "WeighedHall$Loans" 54 "WeighedHall$Plan" "things" "I" "WeighedHall" ∈ NT := nt_mem 88 (by decide +kernel) rfl
theorem wg181 : Cond.fieldLink "WeighedHall$Loans" 21 "WeighedHall$Loans" "till" "[I" ∈ GT := gt_mem 301 (by decide +kernel) rfl
theorem wg179 : Cond.fieldLink "WeighedHall$Loans" 18 "WeighedHall$Loans" "from" "[I" ∈ GT := gt_mem 299 (by decide +kernel) rfl
theorem wg177 : Cond.fieldLink "WeighedHall$Loans" 15 "WeighedHall$Loans" "taker" "[I" ∈ GT := gt_mem 297 (by decide +kernel) rfl
theorem wg175 : Cond.fieldLink "WeighedHall$Loans" 9 "WeighedHall$Loans" "thing" "[I" ∈ GT := gt_mem 295 (by decide +kernel) rfl
theorem d_X5_readLoan_0 : decode cX5_readLoan 0 = .ok (.aload_n 1, 1) := by decide +kernel
theorem d_X5_readLoan_1 : decode cX5_readLoan 1 = .ok (.iconst 0, 1) := by decide +kernel
theorem d_X5_readLoan_2 : decode cX5_readLoan 2 = .ok (.aload_n 2, 1) := by decide +kernel
theorem d_X5_readLoan_3 : decode cX5_readLoan 3 = .ok (.getfield 54, 3) := by decide +kernel
theorem d_X5_readLoan_6 : decode cX5_readLoan 6 = .ok (.iconst 1, 1) := by decide +kernel
theorem d_X5_readLoan_7 : decode cX5_readLoan 7 = .ok (.isub, 1) := by decide +kernel
theorem d_X5_readLoan_8 : decode cX5_readLoan 8 = .ok (.invokevirtual 59, 3) := by decide +kernel
theorem d_X5_readLoan_11 : decode cX5_readLoan 11 = .ok (.istore_n 3, 1) := by decide +kernel
theorem d_X5_readLoan_12 : decode cX5_readLoan 12 = .ok (.aload_n 1, 1) := by decide +kernel
theorem d_X5_readLoan_13 : decode cX5_readLoan 13 = .ok (.iconst 0, 1) := by decide +kernel
theorem d_X5_readLoan_14 : decode cX5_readLoan 14 = .ok (.aload_n 2, 1) := by decide +kernel
theorem d_X5_readLoan_15 : decode cX5_readLoan 15 = .ok (.getfield 63, 3) := by decide +kernel
theorem d_X5_readLoan_18 : decode cX5_readLoan 18 = .ok (.iconst 1, 1) := by decide +kernel
theorem d_X5_readLoan_19 : decode cX5_readLoan 19 = .ok (.isub, 1) := by decide +kernel
theorem d_X5_readLoan_20 : decode cX5_readLoan 20 = .ok (.invokevirtual 59, 3) := by decide +kernel
theorem d_X5_readLoan_23 : decode cX5_readLoan 23 = .ok (.istore 4, 2) := by decide +kernel
theorem d_X5_readLoan_25 : decode cX5_readLoan 25 = .ok (.aload_n 1, 1) := by decide +kernel
theorem d_X5_readLoan_26 : decode cX5_readLoan 26 = .ok (.invokevirtual 66, 3) := by decide +kernel
theorem d_X5_readLoan_29 : decode cX5_readLoan 29 = .ok (.ifCond .eq 27, 3) := by decide +kernel
theorem d_X5_readLoan_32 : decode cX5_readLoan 32 = .ok (.aload_n 2, 1) := by decide +kernel
theorem d_X5_readLoan_33 : decode cX5_readLoan 33 = .ok (.iload_n 3, 1) := by decide +kernel
theorem d_X5_readLoan_34 : decode cX5_readLoan 34 = .ok (.invokevirtual 69, 3) := by decide +kernel
theorem d_X5_readLoan_37 : decode cX5_readLoan 37 = .ok (.ifCond .eq 19, 3) := by decide +kernel
theorem d_X5_readLoan_40 : decode cX5_readLoan 40 = .ok (.aload_n 2, 1) := by decide +kernel
theorem d_X5_readLoan_41 : decode cX5_readLoan 41 = .ok (.getfield 73, 3) := by decide +kernel
theorem d_X5_readLoan_44 : decode cX5_readLoan 44 = .ok (.iload_n 3, 1) := by decide +kernel
theorem d_X5_readLoan_45 : decode cX5_readLoan 45 = .ok (.iaload, 1) := by decide +kernel
theorem d_X5_readLoan_46 : decode cX5_readLoan 46 = .ok (.iload 4, 2) := by decide +kernel
theorem d_X5_readLoan_48 : decode cX5_readLoan 48 = .ok (.if_icmp .ne 8, 3) := by decide +kernel
theorem d_X5_readLoan_51 : decode cX5_readLoan 51 = .ok (.aload_n 1, 1) := by decide +kernel
theorem d_X5_readLoan_52 : decode cX5_readLoan 52 = .ok (.iconst 2, 1) := by decide +kernel
theorem d_X5_readLoan_53 : decode cX5_readLoan 53 = .ok (.invokevirtual 43, 3) := by decide +kernel
theorem d_X5_readLoan_56 : decode cX5_readLoan 56 = .ok (.aload_n 1, 1) := by decide +kernel
theorem d_X5_readLoan_57 : decode cX5_readLoan 57 = .ok (.iconst 0, 1) := by decide +kernel
theorem d_X5_readLoan_58 : decode cX5_readLoan 58 = .ok (.bipush 119, 2) := by decide +kernel
theorem d_X5_readLoan_60 : decode cX5_readLoan 60 = .ok (.invokevirtual 59, 3) := by decide +kernel
theorem d_X5_readLoan_63 : decode cX5_readLoan 63 = .ok (.istore 5, 2) := by decide +kernel
theorem d_X5_readLoan_65 : decode cX5_readLoan 65 = .ok (.aload_n 1, 1) := by decide +kernel
theorem d_X5_readLoan_66 : decode cX5_readLoan 66 = .ok (.iload 5, 2) := by decide +kernel
theorem d_X5_readLoan_68 : decode cX5_readLoan 68 = .ok (.iconst 1, 1) := by decide +kernel
theorem d_X5_readLoan_69 : decode cX5_readLoan 69 = .ok (.iadd, 1) := by decide +kernel
theorem d_X5_readLoan_70 : decode cX5_readLoan 70 = .ok (.bipush 120, 2) := by decide +kernel
theorem d_X5_readLoan_72 : decode cX5_readLoan 72 = .ok (.invokevirtual 59, 3) := by decide +kernel
theorem d_X5_readLoan_75 : decode cX5_readLoan 75 = .ok (.istore 6, 2) := by decide +kernel
theorem d_X5_readLoan_77 : decode cX5_readLoan 77 = .ok (.aload_n 1, 1) := by decide +kernel
theorem d_X5_readLoan_78 : decode cX5_readLoan 78 = .ok (.invokevirtual 66, 3) := by decide +kernel
theorem d_X5_readLoan_81 : decode cX5_readLoan 81 = .ok (.ifCond .eq 65, 3) := by decide +kernel
theorem d_X5_readLoan_84 : decode cX5_readLoan 84 = .ok (.aload_n 0, 1) := by decide +kernel
theorem d_X5_readLoan_85 : decode cX5_readLoan 85 = .ok (.getfield 24, 3) := by decide +kernel
theorem d_X5_readLoan_88 : decode cX5_readLoan 88 = .ok (.bipush 20, 2) := by decide +kernel
theorem d_X5_readLoan_90 : decode cX5_readLoan 90 = .ok (.if_icmp .ge 56, 3) := by decide +kernel
theorem d_X5_readLoan_93 : decode cX5_readLoan 93 = .ok (.aload_n 0, 1) := by decide +kernel
theorem d_X5_readLoan_94 : decode cX5_readLoan 94 = .ok (.getfield 9, 3) := by decide +kernel
theorem d_X5_readLoan_97 : decode cX5_readLoan 97 = .ok (.aload_n 0, 1) := by decide +kernel
theorem d_X5_readLoan_98 : decode cX5_readLoan 98 = .ok (.getfield 24, 3) := by decide +kernel
theorem d_X5_readLoan_101 : decode cX5_readLoan 101 = .ok (.iload_n 3, 1) := by decide +kernel
theorem d_X5_readLoan_102 : decode cX5_readLoan 102 = .ok (.iastore, 1) := by decide +kernel
theorem d_X5_readLoan_103 : decode cX5_readLoan 103 = .ok (.aload_n 0, 1) := by decide +kernel
theorem d_X5_readLoan_104 : decode cX5_readLoan 104 = .ok (.getfield 15, 3) := by decide +kernel
theorem d_X5_readLoan_107 : decode cX5_readLoan 107 = .ok (.aload_n 0, 1) := by decide +kernel
theorem d_X5_readLoan_108 : decode cX5_readLoan 108 = .ok (.getfield 24, 3) := by decide +kernel
theorem d_X5_readLoan_111 : decode cX5_readLoan 111 = .ok (.iload 4, 2) := by decide +kernel
theorem d_X5_readLoan_113 : decode cX5_readLoan 113 = .ok (.iastore, 1) := by decide +kernel
theorem d_X5_readLoan_114 : decode cX5_readLoan 114 = .ok (.aload_n 0, 1) := by decide +kernel
theorem d_X5_readLoan_115 : decode cX5_readLoan 115 = .ok (.getfield 18, 3) := by decide +kernel
theorem d_X5_readLoan_118 : decode cX5_readLoan 118 = .ok (.aload_n 0, 1) := by decide +kernel
theorem d_X5_readLoan_119 : decode cX5_readLoan 119 = .ok (.getfield 24, 3) := by decide +kernel
theorem d_X5_readLoan_122 : decode cX5_readLoan 122 = .ok (.iload 5, 2) := by decide +kernel
theorem d_X5_readLoan_124 : decode cX5_readLoan 124 = .ok (.iastore, 1) := by decide +kernel
theorem d_X5_readLoan_125 : decode cX5_readLoan 125 = .ok (.aload_n 0, 1) := by decide +kernel
theorem d_X5_readLoan_126 : decode cX5_readLoan 126 = .ok (.getfield 21, 3) := by decide +kernel
theorem d_X5_readLoan_129 : decode cX5_readLoan 129 = .ok (.aload_n 0, 1) := by decide +kernel
theorem d_X5_readLoan_130 : decode cX5_readLoan 130 = .ok (.getfield 24, 3) := by decide +kernel
theorem d_X5_readLoan_133 : decode cX5_readLoan 133 = .ok (.iload 6, 2) := by decide +kernel
theorem d_X5_readLoan_135 : decode cX5_readLoan 135 = .ok (.iastore, 1) := by decide +kernel
theorem d_X5_readLoan_136 : decode cX5_readLoan 136 = .ok (.aload_n 0, 1) := by decide +kernel
theorem d_X5_readLoan_137 : decode cX5_readLoan 137 = .ok (.dup, 1) := by decide +kernel
theorem d_X5_readLoan_138 : decode cX5_readLoan 138 = .ok (.getfield 24, 3) := by decide +kernel
theorem d_X5_readLoan_141 : decode cX5_readLoan 141 = .ok (.iconst 1, 1) := by decide +kernel
theorem d_X5_readLoan_142 : decode cX5_readLoan 142 = .ok (.iadd, 1) := by decide +kernel
theorem d_X5_readLoan_143 : decode cX5_readLoan 143 = .ok (.putfield 24, 3) := by decide +kernel
theorem d_X5_readLoan_146 : decode cX5_readLoan 146 = .ok (.return_, 1) := by decide +kernel
set_option maxRecDepth 100000 in
theorem L_X5_readLoan {p : Program} {l : Launch} {e : Env} {s : State} {m : MethodId} {args : Array Value} {below : List Frame} {meth : Method} {c : Code} {D : va_G} {ca : Nat → ClassId} {ad sx sy : Nat → Nat} {A : Nat → Prop} {Q : QT} (C0 : CX p s m args meth c cX5_readLoan 7 yX5_readLoan.cls D ca ad A) (hE : EX sx sy A s s.heap) (hr : meth.sig.returnType = none) (hno : ∀ x ∈ c.exceptionTable.toList, False) : R_X5_readLoan (JW p l e { frames := 13, cells := 0, slots := 6 * 0, locals := 264 } s m args below meth c 7 D ca ad A (vx_MQ below (Qn D ca ad A Q) (Qx D ca ad A Q) args s 0 (6 * 0) A) gz gz true) Q := ⟨s_aln C0 (d_X5_readLoan_0) hgz (s_ic C0 (d_X5_readLoan_1) hgz (s_aln C0 (d_X5_readLoan_2) hgz (s_giN C0 (j := 3) (c0 := 6) rfl gX6 (by decide) rfl (by decide) wn88 (d_X5_readLoan_3) hgz (s_ic C0 (d_X5_readLoan_6) hgz (s_sub C0 (d_X5_readLoan_7) hgz (s_callVN C0 hE (c_X9_readNumber l) wg728 wn786 wg727 ws25 wg2 ⟨by decide, by decide⟩ (by decide +kernel) (c0 := 9) rfl ⟨by decide, by decide⟩ ⟨by decide, by decide⟩ (d_X5_readLoan_8) (fun x hx => (hno x hx).elim) ⟨by decide, by decide⟩ ⟨by decide, by decide⟩ (s_isn C0 (d_X5_readLoan_11) hgz (s_aln C0 (d_X5_readLoan_12) hgz (s_ic C0 (d_X5_readLoan_13) hgz (s_aln C0 (d_X5_readLoan_14) hgz (s_giN C0 (j := 0) (c0 := 6) rfl gX6 (by decide) rfl (by decide) wn76 (d_X5_readLoan_15) hgz (s_ic C0 (d_X5_readLoan_18) hgz (s_sub C0 (d_X5_readLoan_19) hgz (s_callVN C0 hE (c_X9_readNumber l) wg728 wn786 wg727 ws25 wg2 ⟨by decide, by decide⟩ (by decide +kernel) (c0 := 9) rfl ⟨by decide, by decide⟩ ⟨by decide, by decide⟩ (d_X5_readLoan_20) (fun x hx => (hno x hx).elim) ⟨by decide, by decide⟩ ⟨by decide, by decide⟩ (s_is C0 (d_X5_readLoan_23) hgz (s_aln C0 (d_X5_readLoan_25) hgz (s_callVN C0 hE (c_X9_isSound l) wg648 wn787 wg647 ws18 wg2 ⟨by decide, by decide⟩ (by decide +kernel) (c0 := 9) rfl ⟨by decide, by decide⟩ ⟨by decide, by decide⟩ (d_X5_readLoan_26) (fun x hx => (hno x hx).elim) ⟨by decide, by decide⟩ ⟨by decide, by decide⟩ (s_zeq C0 (d_X5_readLoan_29) (by decide) hgz hgz (fun _ _ _ h => h) (s_aln C0 (d_X5_readLoan_32) hgz (s_iln C0 (d_X5_readLoan_33) hgz (s_callVN C0 hE (c_X6_hasThing l) wg791 wn788 wg790 ws35 wg3 ⟨by decide, by decide⟩ (by decide +kernel) (c0 := 6) rfl ⟨by decide, by decide⟩ ⟨by decide, by decide⟩ (d_X5_readLoan_34) (fun x hx => (hno x hx).elim) ⟨by decide, by decide⟩ ⟨by decide, by decide⟩ (s_zeq C0 (d_X5_readLoan_37) (by decide) hgz hgz (fun _ _ _ h => h) (s_aln C0 (d_X5_readLoan_40) hgz (s_grN C0 (j := 4) (c0 := 6) rfl gX6 (by decide) rfl rfl wn96 (d_X5_readLoan_41) hgz (s_iln C0 (d_X5_readLoan_44) hgz (s_ia C0 (d_X5_readLoan_45) hgz (s_il C0 (d_X5_readLoan_46) hgz (s_cne C0 (d_X5_readLoan_48) (by decide) hgz hgz (fun _ _ _ h => h) (s_aln C0 (d_X5_readLoan_51) hgz (s_ic C0 (d_X5_readLoan_52) hgz (s_callVN C0 hE (c_X9_refuse l) wg720 wn781 wg719 ws23 wg2 ⟨by decide, by decide⟩ (by decide +kernel) (c0 := 9) rfl ⟨by decide, by decide⟩ ⟨by decide, by decide⟩ (d_X5_readLoan_53) (fun x hx => (hno x hx).elim) ⟨by decide, by decide⟩ ⟨by decide, by decide⟩ (fun _ _ _ h => h)) (okn rfl))))))))))))))))))) (okn rfl)))) (okn rfl)))))) (okn rfl)))) (okn rfl)),
  s_aln C0 (d_X5_readLoan_56) hgz (s_ic C0 (d_X5_readLoan_57) hgz (s_bi C0 (d_X5_readLoan_58) hgz (s_callVN C0 hE (c_X9_readNumber l) wg728 wn786 wg727 ws25 wg2 ⟨by decide, by decide⟩ (by decide +kernel) (c0 := 9) rfl ⟨by decide, by decide⟩ ⟨by decide, by decide⟩ (d_X5_readLoan_60) (fun x hx => (hno x hx).elim) ⟨by decide, by decide⟩ ⟨by decide, by decide⟩ (s_is C0 (d_X5_readLoan_63) hgz (s_aln C0 (d_X5_readLoan_65) hgz (s_il C0 (d_X5_readLoan_66) hgz (s_ic C0 (d_X5_readLoan_68) hgz (s_add C0 (d_X5_readLoan_69) hgz (s_bi C0 (d_X5_readLoan_70) hgz (s_callVN C0 hE (c_X9_readNumber l) wg728 wn786 wg727 ws25 wg2 ⟨by decide, by decide⟩ (by decide +kernel) (c0 := 9) rfl ⟨by decide, by decide⟩ ⟨by decide, by decide⟩ (d_X5_readLoan_72) (fun x hx => (hno x hx).elim) ⟨by decide, by decide⟩ ⟨by decide, by decide⟩ (s_is C0 (d_X5_readLoan_75) hgz (s_aln C0 (d_X5_readLoan_77) hgz (s_callVN C0 hE (c_X9_isSound l) wg648 wn787 wg647 ws18 wg2 ⟨by decide, by decide⟩ (by decide +kernel) (c0 := 9) rfl ⟨by decide, by decide⟩ ⟨by decide, by decide⟩ (d_X5_readLoan_78) (fun x hx => (hno x hx).elim) ⟨by decide, by decide⟩ ⟨by decide, by decide⟩ (s_zeq C0 (d_X5_readLoan_81) (by decide) hgz hgz (fun _ _ _ h => h) (s_aln C0 (d_X5_readLoan_84) hgz (s_gi C0 (j := 0) (c0 := 5) rfl gX5 (by decide) rfl (by decide) wg172 (d_X5_readLoan_85) hgz (s_bi C0 (d_X5_readLoan_88) hgz (s_cge C0 (d_X5_readLoan_90) (by decide) hgz hgz (fun _ _ _ h => h) (s_aln C0 (d_X5_readLoan_93) hgz (s_gr C0 (j := 1) (c0 := 5) rfl gX5 (by decide) rfl rfl wg175 (d_X5_readLoan_94) hgz (s_aln C0 (d_X5_readLoan_97) hgz (s_gi C0 (j := 0) (c0 := 5) rfl gX5 (by decide) rfl (by decide) wg172 (d_X5_readLoan_98) hgz (s_iln C0 (d_X5_readLoan_101) hgz (s_iax C0 (d_X5_readLoan_102) hgz (s_aln C0 (d_X5_readLoan_103) hgz (s_gr C0 (j := 2) (c0 := 5) rfl gX5 (by decide) rfl rfl wg177 (d_X5_readLoan_104) hgz (s_aln C0 (d_X5_readLoan_107) hgz (s_gi C0 (j := 0) (c0 := 5) rfl gX5 (by decide) rfl (by decide) wg172 (d_X5_readLoan_108) hgz (s_il C0 (d_X5_readLoan_111) hgz (s_iax C0 (d_X5_readLoan_113) hgz (s_aln C0 (d_X5_readLoan_114) hgz (s_gr C0 (j := 3) (c0 := 5) rfl gX5 (by decide) rfl rfl wg179 (d_X5_readLoan_115) hgz (s_aln C0 (d_X5_readLoan_118) hgz (s_gi C0 (j := 0) (c0 := 5) rfl gX5 (by decide) rfl (by decide) wg172 (d_X5_readLoan_119) hgz (s_il C0 (d_X5_readLoan_122) hgz (s_iax C0 (d_X5_readLoan_124) hgz (s_aln C0 (d_X5_readLoan_125) hgz (s_gr C0 (j := 4) (c0 := 5) rfl gX5 (by decide) rfl rfl wg181 (d_X5_readLoan_126) hgz (s_aln C0 (d_X5_readLoan_129) hgz (s_gi C0 (j := 0) (c0 := 5) rfl gX5 (by decide) rfl (by decide) wg172 (d_X5_readLoan_130) hgz (s_il C0 (d_X5_readLoan_133) hgz (s_iax C0 (d_X5_readLoan_135) hgz (s_aln C0 (d_X5_readLoan_136) hgz (s_dup C0 (d_X5_readLoan_137) hgz (s_gi C0 (j := 0) (c0 := 5) rfl gX5 (by decide) rfl (by decide) wg172 (d_X5_readLoan_138) hgz (s_ic C0 (d_X5_readLoan_141) hgz (s_add C0 (d_X5_readLoan_142) hgz (s_pi C0 (j := 0) (c0 := 5) rfl gX5 tyX5_ok nmX5 (by decide) rfl (by decide) rfl rfl wg172 (d_X5_readLoan_143) hgz (fun _ _ _ h => h))) (okn rfl)))))))))))))))))))))))))))))) (okn rfl) rfl)))))))) (okn rfl) rfl)) (okn rfl)))))) (okn rfl) rfl) (okn rfl)),
  s_rv C0 hr (d_X5_readLoan_146) ⟨by decide, by decide⟩⟩
theorem c_X5_readLoan (l : Launch) : Ctr l yX5_readLoan cX5_readLoan 7 none 13 264 0 (fun sx => (nf G_X5_readLoan)) := ctr_of (by decide) gz gz ⟨rfl, rfl⟩ (fun p e s m args below meth c D ca ad sx sy A Q as M C0 hE hr hno hF => P_X5_readLoan (L_X5_readLoan C0 hE hr hno) hF)
theorem d_X6_allPersons_0 : decode cX6_allPersons 0 = .ok (.iconst 1, 1) := by decide +kernel
theorem d_X6_allPersons_1 : decode cX6_allPersons 1 = .ok (.aload_n 0, 1) := by decide +kernel
theorem d_X6_allPersons_2 : decode cX6_allPersons 2 = .ok (.getfield 42, 3) := by decide +kernel
theorem d_X6_allPersons_5 : decode cX6_allPersons 5 = .ok (.ishl, 1) := by decide +kernel
theorem d_X6_allPersons_6 : decode cX6_allPersons 6 = .ok (.iconst 1, 1) := by decide +kernel
theorem d_X6_allPersons_7 : decode cX6_allPersons 7 = .ok (.isub, 1) := by decide +kernel
theorem d_X6_allPersons_8 : decode cX6_allPersons 8 = .ok (.ireturn, 1) := by decide +kernel
set_option maxRecDepth 100000 in
theorem L_X6_allPersons {p : Program} {l : Launch} {e : Env} {s : State} {m : MethodId} {args : Array Value} {below : List Frame} {meth : Method} {c : Code} {D : va_G} {ca : Nat → ClassId} {ad sx sy : Nat → Nat} {A : Nat → Prop} {Q : QT} (C0 : CX p s m args meth c cX6_allPersons 1 yX6_allPersons.cls D ca ad A) (hE : EX sx sy A s s.heap) (hr : meth.sig.returnType = (some .int)) (hno : ∀ x ∈ c.exceptionTable.toList, False) : R_X6_allPersons (JW p l e { frames := 10, cells := 0, slots := 6 * 0, locals := 200 } s m args below meth c 1 D ca ad A (vx_MQ below (Qn D ca ad A Q) (Qx D ca ad A Q) args s 0 (6 * 0) A) gz gz true) Q := s_ic C0 (d_X6_allPersons_0) hgz (s_aln C0 (d_X6_allPersons_1) hgz (s_gi C0 (j := 0) (c0 := 6) rfl gX6 (by decide) rfl (by decide) wg71 (d_X6_allPersons_2) hgz (s_shl C0 (d_X6_allPersons_5) hgz (s_ic C0 (d_X6_allPersons_6) hgz (s_sub C0 (d_X6_allPersons_7) hgz (s_ri C0 hr (d_X6_allPersons_8) ⟨by decide, by decide⟩)) (okn rfl))))) (okn rfl)
theorem c_X6_allPersons (l : Launch) : Ctr l yX6_allPersons cX6_allPersons 1 (some .int) 10 200 0 (fun sx => (nf G_X6_allPersons)) := ctr_of (by decide) gz gz ⟨rfl, rfl⟩ (fun p e s m args below meth c D ca ad sx sy A Q as M C0 hE hr hno hF => P_X6_allPersons (L_X6_allPersons C0 hE hr hno) hF)
theorem wg115 : Cond.fieldLink "WeighedHall$Plan" 52 "WeighedHall$Plan" "motions" "I" ∈ GT := gt_mem 235 (by decide +kernel) rfl
theorem d_X6_hasMotion_0 : decode cX6_hasMotion 0 = .ok (.iload_n 1, 1) := by decide +kernel
theorem d_X6_hasMotion_1 : decode cX6_hasMotion 1 = .ok (.ifCond .lt 15, 3) := by decide +kernel
theorem d_X6_hasMotion_4 : decode cX6_hasMotion 4 = .ok (.iload_n 1, 1) := by decide +kernel
theorem d_X6_hasMotion_5 : decode cX6_hasMotion 5 = .ok (.aload_n 0, 1) := by decide +kernel
theorem d_X6_hasMotion_6 : decode cX6_hasMotion 6 = .ok (.getfield 52, 3) := by decide +kernel
theorem d_X6_hasMotion_9 : decode cX6_hasMotion 9 = .ok (.if_icmp .ge 7, 3) := by decide +kernel
theorem d_X6_hasMotion_12 : decode cX6_hasMotion 12 = .ok (.iconst 1, 1) := by decide +kernel
theorem d_X6_hasMotion_13 : decode cX6_hasMotion 13 = .ok (.goto 4, 3) := by decide +kernel
theorem d_X6_hasMotion_16 : decode cX6_hasMotion 16 = .ok (.iconst 0, 1) := by decide +kernel
theorem d_X6_hasMotion_17 : decode cX6_hasMotion 17 = .ok (.ireturn, 1) := by decide +kernel
set_option maxRecDepth 100000 in
theorem L_X6_hasMotion {p : Program} {l : Launch} {e : Env} {s : State} {m : MethodId} {args : Array Value} {below : List Frame} {meth : Method} {c : Code} {D : va_G} {ca : Nat → ClassId} {ad sx sy : Nat → Nat} {A : Nat → Prop} {Q : QT} (C0 : CX p s m args meth c cX6_hasMotion 2 yX6_hasMotion.cls D ca ad A) (hE : EX sx sy A s s.heap) (hr : meth.sig.returnType = (some .boolean)) (hno : ∀ x ∈ c.exceptionTable.toList, False) : R_X6_hasMotion (JW p l e { frames := 10, cells := 0, slots := 6 * 0, locals := 200 } s m args below meth c 2 D ca ad A (vx_MQ below (Qn D ca ad A Q) (Qx D ca ad A Q) args s 0 (6 * 0) A) gz gz true) Q := ⟨s_iln C0 (d_X6_hasMotion_0) hgz (s_zlt C0 (d_X6_hasMotion_1) (by decide) hgz hgz (fun _ _ _ h => h) (s_iln C0 (d_X6_hasMotion_4) hgz (s_aln C0 (d_X6_hasMotion_5) hgz (s_gi C0 (j := 10) (c0 := 6) rfl gX6 (by decide) rfl (by decide) wg115 (d_X6_hasMotion_6) hgz (s_cge C0 (d_X6_hasMotion_9) (by decide) hgz hgz (fun _ _ _ h => h) (s_ic C0 (d_X6_hasMotion_12) hgz (s_goto C0 (tgt := 17) (d_X6_hasMotion_13) (by decide) hgz (fun _ _ _ h => h)) (okn rfl))))))),
  s_ic C0 (d_X6_hasMotion_16) hgz (fun _ _ _ h => h) (okn rfl),
  s_rz C0 hr (d_X6_hasMotion_17) ⟨by decide, by decide⟩⟩
theorem c_X6_hasMotion (l : Launch) : Ctr l yX6_hasMotion cX6_hasMotion 2 (some .boolean) 10 200 0 (fun sx => (nf G_X6_hasMotion)) := ctr_of (by decide) gz gz ⟨rfl, rfl⟩ (fun p e s m args below meth c D ca ad sx sy A Q as M C0 hE hr hno hF => P_X6_hasMotion (L_X6_hasMotion C0 hE hr hno) hF)
theorem wg751 : Cond.code ⟨"WeighedHall$Plan", "allPersons", "()I"⟩ prog_8_method_10_code 1 (Option.some .int) ∈ GT := gt_mem 871 (by decide +kernel) rfl
theorem wg748 : Cond.methodLink "WeighedHall$Plan" 118 ⟨"WeighedHall$Plan", "allPersons", "()I"⟩ ∈ GT := gt_mem 868 (by decide +kernel) rfl
theorem wg750 : Cond.instanceMethod ⟨"WeighedHall$Plan", "allPersons", "()I"⟩ ∈ GT := gt_mem 870 (by decide +kernel) rfl
theorem ws29 : Cond.selects "WeighedHall$Plan" ⟨"WeighedHall$Plan", "allPersons", "()I"⟩ ⟨"WeighedHall$Plan", "allPersons", "()I"⟩ ∈ GT := gt_mem 29 (by decide +kernel) rfl
theorem d_X6_hasPersons_0 : decode cX6_hasPersons 0 = .ok (.iload_n 1, 1) := by decide +kernel
theorem d_X6_hasPersons_1 : decode cX6_hasPersons 1 = .ok (.ifCond .lt 15, 3) := by decide +kernel
theorem d_X6_hasPersons_4 : decode cX6_hasPersons 4 = .ok (.iload_n 1, 1) := by decide +kernel
theorem d_X6_hasPersons_5 : decode cX6_hasPersons 5 = .ok (.aload_n 0, 1) := by decide +kernel
theorem d_X6_hasPersons_6 : decode cX6_hasPersons 6 = .ok (.invokevirtual 118, 3) := by decide +kernel
theorem d_X6_hasPersons_9 : decode cX6_hasPersons 9 = .ok (.if_icmp .gt 7, 3) := by decide +kernel
theorem d_X6_hasPersons_12 : decode cX6_hasPersons 12 = .ok (.iconst 1, 1) := by decide +kernel
theorem d_X6_hasPersons_13 : decode cX6_hasPersons 13 = .ok (.goto 4, 3) := by decide +kernel
theorem d_X6_hasPersons_16 : decode cX6_hasPersons 16 = .ok (.iconst 0, 1) := by decide +kernel
theorem d_X6_hasPersons_17 : decode cX6_hasPersons 17 = .ok (.ireturn, 1) := by decide +kernel
set_option maxRecDepth 100000 in
theorem L_X6_hasPersons {p : Program} {l : Launch} {e : Env} {s : State} {m : MethodId} {args : Array Value} {below : List Frame} {meth : Method} {c : Code} {D : va_G} {ca : Nat → ClassId} {ad sx sy : Nat → Nat} {A : Nat → Prop} {Q : QT} (C0 : CX p s m args meth c cX6_hasPersons 2 yX6_hasPersons.cls D ca ad A) (hE : EX sx sy A s s.heap) (hr : meth.sig.returnType = (some .boolean)) (hno : ∀ x ∈ c.exceptionTable.toList, False) : R_X6_hasPersons (JW p l e { frames := 11, cells := 0, slots := 6 * 0, locals := 220 } s m args below meth c 2 D ca ad A (vx_MQ below (Qn D ca ad A Q) (Qx D ca ad A Q) args s 0 (6 * 0) A) gz gz true) Q := ⟨s_iln C0 (d_X6_hasPersons_0) hgz (s_zlt C0 (d_X6_hasPersons_1) (by decide) hgz hgz (fun _ _ _ h => h) (s_iln C0 (d_X6_hasPersons_4) hgz (s_aln C0 (d_X6_hasPersons_5) hgz (s_callV C0 hE (c_X6_allPersons l) wg751 wg748 wg750 ws29 wg3 ⟨by decide, by decide⟩ (by decide +kernel) (c0 := 6) rfl ⟨by decide, by decide⟩ ⟨by decide, by decide⟩ (d_X6_hasPersons_6) (fun x hx => (hno x hx).elim) ⟨by decide, by decide⟩ ⟨by decide, by decide⟩ (s_cgt C0 (d_X6_hasPersons_9) (by decide) hgz hgz (fun _ _ _ h => h) (s_ic C0 (d_X6_hasPersons_12) hgz (s_goto C0 (tgt := 17) (d_X6_hasPersons_13) (by decide) hgz (fun _ _ _ h => h)) (okn rfl))))))),
  s_ic C0 (d_X6_hasPersons_16) hgz (fun _ _ _ h => h) (okn rfl),
  s_rz C0 hr (d_X6_hasPersons_17) ⟨by decide, by decide⟩⟩
theorem c_X6_hasPersons (l : Launch) : Ctr l yX6_hasPersons cX6_hasPersons 2 (some .boolean) 11 220 0 (fun sx => (nf G_X6_hasPersons)) := ctr_of (by decide) gz gz ⟨rfl, rfl⟩ (fun p e s m args below meth c D ca ad sx sy A Q as M C0 hE hr hno hF => P_X6_hasPersons (L_X6_hasPersons C0 hE hr hno) hF)
theorem wn717 : Cond.methodLinkNest "WeighedHall$Plan" 107 ⟨"WeighedHall$Tape", "refuse", "(I)V"⟩ "WeighedHall" ∈ NT := nt_mem 717 (by decide +kernel) rfl
theorem d_X6_needRoom_0 : decode cX6_needRoom 0 = .ok (.iload_n 1, 1) := by decide +kernel
theorem d_X6_needRoom_1 : decode cX6_needRoom 1 = .ok (.ifCond .ne 8, 3) := by decide +kernel
theorem d_X6_needRoom_4 : decode cX6_needRoom 4 = .ok (.aload_n 0, 1) := by decide +kernel
theorem d_X6_needRoom_5 : decode cX6_needRoom 5 = .ok (.iconst 3, 1) := by decide +kernel
theorem d_X6_needRoom_6 : decode cX6_needRoom 6 = .ok (.invokevirtual 107, 3) := by decide +kernel
theorem d_X6_needRoom_9 : decode cX6_needRoom 9 = .ok (.return_, 1) := by decide +kernel
set_option maxRecDepth 100000 in
theorem L_X6_needRoom {p : Program} {l : Launch} {e : Env} {s : State} {m : MethodId} {args : Array Value} {below : List Frame} {meth : Method} {c : Code} {D : va_G} {ca : Nat → ClassId} {ad sx sy : Nat → Nat} {A : Nat → Prop} {Q : QT} (C0 : CX p s m args meth c cX6_needRoom 2 yX6_needRoom.cls D ca ad A) (hE : EX sx sy A s s.heap) (hr : meth.sig.returnType = none) (hno : ∀ x ∈ c.exceptionTable.toList, False) : R_X6_needRoom (JW p l e { frames := 12, cells := 0, slots := 6 * 0, locals := 241 } s m args below meth c 2 D ca ad A (vx_MQ below (Qn D ca ad A Q) (Qx D ca ad A Q) args s 0 (6 * 0) A) gz gz true) Q := ⟨s_iln C0 (d_X6_needRoom_0) hgz (s_zne C0 (d_X6_needRoom_1) (by decide) hgz hgz (fun _ _ _ h => h) (s_aln C0 (d_X6_needRoom_4) hgz (s_ic C0 (d_X6_needRoom_5) hgz (s_callVN C0 hE (c_X9_refuse l) wg720 wn717 wg719 ws23 wg2 ⟨by decide, by decide⟩ (by decide +kernel) (c0 := 9) rfl ⟨by decide, by decide⟩ ⟨by decide, by decide⟩ (d_X6_needRoom_6) (fun x hx => (hno x hx).elim) ⟨by decide, by decide⟩ ⟨by decide, by decide⟩ (fun _ _ _ h => h)) (okn rfl)))),
  s_rv C0 hr (d_X6_needRoom_9) ⟨by decide, by decide⟩⟩
theorem c_X6_needRoom (l : Launch) : Ctr l yX6_needRoom cX6_needRoom 2 none 12 241 0 (fun sx => (nf G_X6_needRoom)) := ctr_of (by decide) gz gz ⟨rfl, rfl⟩ (fun p e s m args below meth c D ca ad sx sy A Q as M C0 hE hr hno hF => P_X6_needRoom (L_X6_needRoom C0 hE hr hno) hF)
