theorem d_X11_comesTo_0 : decode cX11_comesTo 0 = .ok (.aload_n 0, 1) := by decide +kernel
theorem d_X11_comesTo_1 : decode cX11_comesTo 1 = .ok (.getfield 64, 3) := by decide +kernel
theorem d_X11_comesTo_4 : decode cX11_comesTo 4 = .ok (.iload_n 1, 1) := by decide +kernel
theorem d_X11_comesTo_5 : decode cX11_comesTo 5 = .ok (.aload_n 0, 1) := by decide +kernel
theorem d_X11_comesTo_6 : decode cX11_comesTo 6 = .ok (.getfield 76, 3) := by decide +kernel
theorem d_X11_comesTo_9 : decode cX11_comesTo 9 = .ok (.iload_n 2, 1) := by decide +kernel
theorem d_X11_comesTo_10 : decode cX11_comesTo 10 = .ok (.iaload, 1) := by decide +kernel
theorem d_X11_comesTo_11 : decode cX11_comesTo 11 = .ok (.iconst (-1), 1) := by decide +kernel
theorem d_X11_comesTo_12 : decode cX11_comesTo 12 = .ok (.if_icmp .ne 7, 3) := by decide +kernel
theorem d_X11_comesTo_15 : decode cX11_comesTo 15 = .ok (.iload_n 2, 1) := by decide +kernel
theorem d_X11_comesTo_16 : decode cX11_comesTo 16 = .ok (.goto 4, 3) := by decide +kernel
theorem d_X11_comesTo_19 : decode cX11_comesTo 19 = .ok (.iconst (-1), 1) := by decide +kernel
theorem d_X11_comesTo_20 : decode cX11_comesTo 20 = .ok (.iastore, 1) := by decide +kernel
theorem d_X11_comesTo_21 : decode cX11_comesTo 21 = .ok (.aload_n 0, 1) := by decide +kernel
theorem d_X11_comesTo_22 : decode cX11_comesTo 22 = .ok (.getfield 67, 3) := by decide +kernel
theorem d_X11_comesTo_25 : decode cX11_comesTo 25 = .ok (.iload_n 1, 1) := by decide +kernel
theorem d_X11_comesTo_26 : decode cX11_comesTo 26 = .ok (.iconst (-1), 1) := by decide +kernel
theorem d_X11_comesTo_27 : decode cX11_comesTo 27 = .ok (.iastore, 1) := by decide +kernel
theorem d_X11_comesTo_28 : decode cX11_comesTo 28 = .ok (.return_, 1) := by decide +kernel
set_option maxRecDepth 100000 in
theorem L_X11_comesTo {p : Program} {l : Launch} {e : Env} {s : State} {m : MethodId} {args : Array Value} {below : List Frame} {meth : Method} {c : Code} {D : va_G} {ca : Nat → ClassId} {ad sx sy : Nat → Nat} {A : Nat → Prop} {Q : QT} (C0 : CX p s m args meth c cX11_comesTo 3 yX11_comesTo.cls D ca ad A) (hE : EX sx sy A s s.heap) (hr : meth.sig.returnType = none) (hno : ∀ x ∈ c.exceptionTable.toList, False) : R_X11_comesTo (JW p l e { frames := 10, cells := 0, slots := 6 * 0, locals := 200 } s m args below meth c 3 D ca ad A (vx_MQ below (Qn D ca ad A Q) (Qx D ca ad A Q) args s 0 (6 * 0) A) gz gz true) Q := ⟨s_aln C0 (d_X11_comesTo_0) hgz (s_gr C0 (j := 28) (c0 := 11) rfl gX11 (by decide) rfl rfl wg1229 (d_X11_comesTo_1) hgz (s_iln C0 (d_X11_comesTo_4) hgz (s_aln C0 (d_X11_comesTo_5) hgz (s_gr C0 (j := 32) (c0 := 11) rfl gX11 (by decide) rfl rfl wg1233 (d_X11_comesTo_6) hgz (s_iln C0 (d_X11_comesTo_9) hgz (s_ia C0 (d_X11_comesTo_10) hgz (s_ic C0 (d_X11_comesTo_11) hgz (s_cne C0 (d_X11_comesTo_12) (by decide) hgz hgz (fun _ _ _ h => h) (s_iln C0 (d_X11_comesTo_15) hgz (s_goto C0 (tgt := 20) (d_X11_comesTo_16) (by decide) hgz (fun _ _ _ h => h)))) (okn rfl)))))))),
  s_ic C0 (d_X11_comesTo_19) hgz (fun _ _ _ h => h) (okn rfl),
  s_iax C0 (d_X11_comesTo_20) hgz (s_aln C0 (d_X11_comesTo_21) hgz (s_gr C0 (j := 29) (c0 := 11) rfl gX11 (by decide) rfl rfl wg1230 (d_X11_comesTo_22) hgz (s_iln C0 (d_X11_comesTo_25) hgz (s_ic C0 (d_X11_comesTo_26) hgz (s_iax C0 (d_X11_comesTo_27) hgz (s_rv C0 hr (d_X11_comesTo_28) ⟨by decide, by decide⟩)) (okn rfl)))))⟩
theorem c_X11_comesTo (l : Launch) : Ctr l yX11_comesTo cX11_comesTo 3 none 10 200 0 (fun sx => (nf G_X11_comesTo)) := ctr_of (by decide) gz gz ⟨rfl, rfl⟩ (fun p e s m args below meth c D ca ad sx sy A Q as M C0 hE hr hno hF => P_X11_comesTo (L_X11_comesTo C0 hE hr hno) hF)
theorem wg1225 : Cond.fieldLink "WeighedHallModel" 205 "WeighedHallModel" "images" "I" ∈ GT := gt_mem 1345 (by decide +kernel) rfl
theorem wg1202 : Cond.fieldLink "WeighedHallModel" 109 "WeighedHallModel" "tape" "I" ∈ GT := gt_mem 1322 (by decide +kernel) rfl
theorem d_X11_count_0 : decode cX11_count 0 = .ok (.aload_n 0, 1) := by decide +kernel
theorem d_X11_count_1 : decode cX11_count 1 = .ok (.iconst 0, 1) := by decide +kernel
theorem d_X11_count_2 : decode cX11_count 2 = .ok (.putfield 106, 3) := by decide +kernel
theorem d_X11_count_5 : decode cX11_count 5 = .ok (.iload_n 1, 1) := by decide +kernel
theorem d_X11_count_6 : decode cX11_count 6 = .ok (.ifCond .ne 10, 3) := by decide +kernel
theorem d_X11_count_9 : decode cX11_count 9 = .ok (.aload_n 0, 1) := by decide +kernel
theorem d_X11_count_10 : decode cX11_count 10 = .ok (.getfield 202, 3) := by decide +kernel
theorem d_X11_count_13 : decode cX11_count 13 = .ok (.goto 28, 3) := by decide +kernel
theorem d_X11_count_16 : decode cX11_count 16 = .ok (.iload_n 1, 1) := by decide +kernel
theorem d_X11_count_17 : decode cX11_count 17 = .ok (.iconst 1, 1) := by decide +kernel
theorem d_X11_count_18 : decode cX11_count 18 = .ok (.if_icmp .ne 10, 3) := by decide +kernel
theorem d_X11_count_21 : decode cX11_count 21 = .ok (.aload_n 0, 1) := by decide +kernel
theorem d_X11_count_22 : decode cX11_count 22 = .ok (.getfield 205, 3) := by decide +kernel
theorem d_X11_count_25 : decode cX11_count 25 = .ok (.goto 16, 3) := by decide +kernel
theorem d_X11_count_28 : decode cX11_count 28 = .ok (.iload_n 1, 1) := by decide +kernel
theorem d_X11_count_29 : decode cX11_count 29 = .ok (.iconst 2, 1) := by decide +kernel
theorem d_X11_count_30 : decode cX11_count 30 = .ok (.if_icmp .ne 10, 3) := by decide +kernel
theorem d_X11_count_33 : decode cX11_count 33 = .ok (.aload_n 0, 1) := by decide +kernel
theorem d_X11_count_34 : decode cX11_count 34 = .ok (.getfield 109, 3) := by decide +kernel
theorem d_X11_count_37 : decode cX11_count 37 = .ok (.goto 4, 3) := by decide +kernel
theorem d_X11_count_40 : decode cX11_count 40 = .ok (.iconst (-1), 1) := by decide +kernel
theorem d_X11_count_41 : decode cX11_count 41 = .ok (.ireturn, 1) := by decide +kernel
set_option maxRecDepth 100000 in
theorem L_X11_count {p : Program} {l : Launch} {e : Env} {s : State} {m : MethodId} {args : Array Value} {below : List Frame} {meth : Method} {c : Code} {D : va_G} {ca : Nat → ClassId} {ad sx sy : Nat → Nat} {A : Nat → Prop} {Q : QT} (C0 : CX p s m args meth c cX11_count 2 yX11_count.cls D ca ad A) (hE : EX sx sy A s s.heap) (hr : meth.sig.returnType = (some .int)) (hno : ∀ x ∈ c.exceptionTable.toList, False) : R_X11_count (JW p l e { frames := 10, cells := 0, slots := 6 * 0, locals := 200 } s m args below meth c 2 D ca ad A (vx_MQ below (Qn D ca ad A Q) (Qx D ca ad A Q) args s 0 (6 * 0) A) gz gz true) Q := ⟨s_aln C0 (d_X11_count_0) hgz (s_ic C0 (d_X11_count_1) hgz (s_pi C0 (j := 0) (c0 := 11) rfl gX11 tyX11_ok nmX11 (by decide) rfl (by decide) rfl rfl wg1201 (d_X11_count_2) hgz (s_iln C0 (d_X11_count_5) hgz (s_zne C0 (d_X11_count_6) (by decide) hgz hgz (fun _ _ _ h => h) (s_aln C0 (d_X11_count_9) hgz (s_gi C0 (j := 23) (c0 := 11) rfl gX11 (by decide) rfl (by decide) wg1224 (d_X11_count_10) hgz (s_goto C0 (tgt := 41) (d_X11_count_13) (by decide) hgz (fun _ _ _ h => h))))))) (okn rfl)),
  s_iln C0 (d_X11_count_16) hgz (s_ic C0 (d_X11_count_17) hgz (s_cne C0 (d_X11_count_18) (by decide) hgz hgz (fun _ _ _ h => h) (s_aln C0 (d_X11_count_21) hgz (s_gi C0 (j := 24) (c0 := 11) rfl gX11 (by decide) rfl (by decide) wg1225 (d_X11_count_22) hgz (s_goto C0 (tgt := 41) (d_X11_count_25) (by decide) hgz (fun _ _ _ h => h))))) (okn rfl)),
  s_iln C0 (d_X11_count_28) hgz (s_ic C0 (d_X11_count_29) hgz (s_cne C0 (d_X11_count_30) (by decide) hgz hgz (fun _ _ _ h => h) (s_aln C0 (d_X11_count_33) hgz (s_gi C0 (j := 1) (c0 := 11) rfl gX11 (by decide) rfl (by decide) wg1202 (d_X11_count_34) hgz (s_goto C0 (tgt := 41) (d_X11_count_37) (by decide) hgz (fun _ _ _ h => h))))) (okn rfl)),
  s_ic C0 (d_X11_count_40) hgz (fun _ _ _ h => h) (okn rfl),
  s_ri C0 hr (d_X11_count_41) ⟨by decide, by decide⟩⟩
theorem c_X11_count (l : Launch) : Ctr l yX11_count cX11_count 2 (some .int) 10 200 0 (fun sx => (nf G_X11_count)) := ctr_of (by decide) gz gz ⟨rfl, rfl⟩ (fun p e s m args below meth c D ca ad sx sy A Q as M C0 hE hr hno hF => P_X11_count (L_X11_count C0 hE hr hno) hF)
theorem d_X11_root_0 : decode cX11_root 0 = .ok (.iconst 0, 1) := by decide +kernel
theorem d_X11_root_1 : decode cX11_root 1 = .ok (.istore_n 1, 1) := by decide +kernel
theorem d_X11_root_2 : decode cX11_root 2 = .ok (.iload_n 1, 1) := by decide +kernel
theorem d_X11_root_3 : decode cX11_root 3 = .ok (.iconst 1, 1) := by decide +kernel
theorem d_X11_root_4 : decode cX11_root 4 = .ok (.iadd, 1) := by decide +kernel
theorem d_X11_root_5 : decode cX11_root 5 = .ok (.iload_n 1, 1) := by decide +kernel
theorem d_X11_root_6 : decode cX11_root 6 = .ok (.iconst 1, 1) := by decide +kernel
theorem d_X11_root_7 : decode cX11_root 7 = .ok (.iadd, 1) := by decide +kernel
theorem d_X11_root_8 : decode cX11_root 8 = .ok (.imul, 1) := by decide +kernel
theorem d_X11_root_9 : decode cX11_root 9 = .ok (.iload_n 0, 1) := by decide +kernel
theorem d_X11_root_10 : decode cX11_root 10 = .ok (.if_icmp .gt 9, 3) := by decide +kernel
theorem d_X11_root_13 : decode cX11_root 13 = .ok (.iinc 1 1, 3) := by decide +kernel
theorem d_X11_root_16 : decode cX11_root 16 = .ok (.goto (-14), 3) := by decide +kernel
theorem d_X11_root_19 : decode cX11_root 19 = .ok (.iload_n 1, 1) := by decide +kernel
theorem d_X11_root_20 : decode cX11_root 20 = .ok (.ireturn, 1) := by decide +kernel
set_option maxRecDepth 100000 in
theorem L_X11_root {p : Program} {l : Launch} {e : Env} {s : State} {m : MethodId} {args : Array Value} {below : List Frame} {meth : Method} {c : Code} {D : va_G} {ca : Nat → ClassId} {ad sx sy : Nat → Nat} {A : Nat → Prop} {Q : QT} (C0 : CX p s m args meth c cX11_root 2 yX11_root.cls D ca ad A) (hE : EX sx sy A s s.heap) (hr : meth.sig.returnType = (some .int)) (hno : ∀ x ∈ c.exceptionTable.toList, False) : R_X11_root (JW p l e { frames := 10, cells := 0, slots := 6 * 0, locals := 200 } s m args below meth c 2 D ca ad A (vx_MQ below (Qn D ca ad A Q) (Qx D ca ad A Q) args s 0 (6 * 0) A) gz gz true) Q := ⟨s_ic C0 (d_X11_root_0) hgz (s_isn C0 (d_X11_root_1) hgz (fun _ _ _ h => h)) (okn rfl),
  s_iln C0 (d_X11_root_2) hgz (s_ic C0 (d_X11_root_3) hgz (s_add C0 (d_X11_root_4) hgz (s_iln C0 (d_X11_root_5) hgz (s_ic C0 (d_X11_root_6) hgz (s_add C0 (d_X11_root_7) hgz (s_mul C0 (d_X11_root_8) hgz (s_iln C0 (d_X11_root_9) hgz (s_cgt C0 (d_X11_root_10) (by decide) hgz hgz (fun _ _ _ h => h) (s_inc C0 (d_X11_root_13) hgz (s_goto C0 (tgt := 2) (d_X11_root_16) (by decide) hgz (fun _ _ _ h => h))))))) (okn rfl)))) (okn rfl)),
  s_iln C0 (d_X11_root_19) hgz (s_ri C0 hr (d_X11_root_20) ⟨by decide, by decide⟩)⟩
theorem c_X11_root (l : Launch) : Ctr l yX11_root cX11_root 2 (some .int) 10 200 0 (fun sx => (nf G_X11_root)) := ctr_of (by decide) gz gz ⟨rfl, rfl⟩ (fun p e s m args below meth c D ca ad sx sy A Q as M C0 hE hr hno hF => P_X11_root (L_X11_root C0 hE hr hno) hF)
theorem wg1234 : Cond.fieldLink "WeighedHallModel" 79 "WeighedHallModel" "pounds" "[I" ∈ GT := gt_mem 1354 (by decide +kernel) rfl
theorem wg1218 : Cond.fieldLink "WeighedHallModel" 43 "WeighedHallModel" "motion" "[[I" ∈ GT := gt_mem 1338 (by decide +kernel) rfl
theorem wg1508 : Cond.code ⟨"WeighedHallModel", "root", "(I)I"⟩ prog_13_method_40_code 2 (Option.some .int) ∈ GT := gt_mem 1628 (by decide +kernel) rfl
theorem wg1506 : Cond.methodLink "WeighedHallModel" 250 ⟨"WeighedHallModel", "root", "(I)I"⟩ ∈ GT := gt_mem 1626 (by decide +kernel) rfl
theorem wg1507 : Cond.static ⟨"WeighedHallModel", "root", "(I)I"⟩ ∈ GT := gt_mem 1627 (by decide +kernel) rfl
theorem wg1235 : Cond.fieldLink "WeighedHallModel" 84 "WeighedHallModel" "counts" "[[[I" ∈ GT := gt_mem 1355 (by decide +kernel) rfl
theorem d_X11_countsOf_0 : decode cX11_countsOf 0 = .ok (.iconst 0, 1) := by decide +kernel
theorem d_X11_countsOf_1 : decode cX11_countsOf 1 = .ok (.istore_n 2, 1) := by decide +kernel
theorem d_X11_countsOf_2 : decode cX11_countsOf 2 = .ok (.iload_n 2, 1) := by decide +kernel
theorem d_X11_countsOf_3 : decode cX11_countsOf 3 = .ok (.iconst 3, 1) := by decide +kernel
theorem d_X11_countsOf_4 : decode cX11_countsOf 4 = .ok (.if_icmp .ge 114, 3) := by decide +kernel
theorem d_X11_countsOf_7 : decode cX11_countsOf 7 = .ok (.iconst 0, 1) := by decide +kernel
theorem d_X11_countsOf_8 : decode cX11_countsOf 8 = .ok (.istore_n 3, 1) := by decide +kernel
theorem d_X11_countsOf_9 : decode cX11_countsOf 9 = .ok (.iload_n 3, 1) := by decide +kernel
theorem d_X11_countsOf_10 : decode cX11_countsOf 10 = .ok (.iconst 2, 1) := by decide +kernel
theorem d_X11_countsOf_11 : decode cX11_countsOf 11 = .ok (.if_icmp .ge 101, 3) := by decide +kernel
theorem d_X11_countsOf_14 : decode cX11_countsOf 14 = .ok (.iconst 0, 1) := by decide +kernel
theorem d_X11_countsOf_15 : decode cX11_countsOf 15 = .ok (.istore 4, 2) := by decide +kernel
theorem d_X11_countsOf_17 : decode cX11_countsOf 17 = .ok (.iconst 0, 1) := by decide +kernel
theorem d_X11_countsOf_18 : decode cX11_countsOf 18 = .ok (.istore 5, 2) := by decide +kernel
theorem d_X11_countsOf_20 : decode cX11_countsOf 20 = .ok (.iload 5, 2) := by decide +kernel
theorem d_X11_countsOf_22 : decode cX11_countsOf 22 = .ok (.aload_n 0, 1) := by decide +kernel
theorem d_X11_countsOf_23 : decode cX11_countsOf 23 = .ok (.getfield 23, 3) := by decide +kernel
theorem d_X11_countsOf_26 : decode cX11_countsOf 26 = .ok (.iconst 0, 1) := by decide +kernel
theorem d_X11_countsOf_27 : decode cX11_countsOf 27 = .ok (.iaload, 1) := by decide +kernel
theorem d_X11_countsOf_28 : decode cX11_countsOf 28 = .ok (.if_icmp .ge 66, 3) := by decide +kernel
theorem d_X11_countsOf_31 : decode cX11_countsOf 31 = .ok (.aload_n 0, 1) := by decide +kernel
theorem d_X11_countsOf_32 : decode cX11_countsOf 32 = .ok (.getfield 43, 3) := by decide +kernel
theorem d_X11_countsOf_35 : decode cX11_countsOf 35 = .ok (.iload_n 1, 1) := by decide +kernel
theorem d_X11_countsOf_36 : decode cX11_countsOf 36 = .ok (.aaload, 1) := by decide +kernel
theorem d_X11_countsOf_37 : decode cX11_countsOf 37 = .ok (.iconst 1, 1) := by decide +kernel
theorem d_X11_countsOf_38 : decode cX11_countsOf 38 = .ok (.iload_n 3, 1) := by decide +kernel
theorem d_X11_countsOf_39 : decode cX11_countsOf 39 = .ok (.iadd, 1) := by decide +kernel
theorem d_X11_countsOf_40 : decode cX11_countsOf 40 = .ok (.iaload, 1) := by decide +kernel
theorem d_X11_countsOf_41 : decode cX11_countsOf 41 = .ok (.iload 5, 2) := by decide +kernel
theorem d_X11_countsOf_43 : decode cX11_countsOf 43 = .ok (.ishr, 1) := by decide +kernel
theorem d_X11_countsOf_44 : decode cX11_countsOf 44 = .ok (.iconst 1, 1) := by decide +kernel
theorem d_X11_countsOf_45 : decode cX11_countsOf 45 = .ok (.iand, 1) := by decide +kernel
theorem d_X11_countsOf_46 : decode cX11_countsOf 46 = .ok (.iconst 1, 1) := by decide +kernel
theorem d_X11_countsOf_47 : decode cX11_countsOf 47 = .ok (.if_icmp .ne 41, 3) := by decide +kernel
theorem d_X11_countsOf_50 : decode cX11_countsOf 50 = .ok (.iload 4, 2) := by decide +kernel
theorem d_X11_countsOf_52 : decode cX11_countsOf 52 = .ok (.iload_n 2, 1) := by decide +kernel
theorem d_X11_countsOf_53 : decode cX11_countsOf 53 = .ok (.ifCond .ne 13, 3) := by decide +kernel
theorem d_X11_countsOf_56 : decode cX11_countsOf 56 = .ok (.aload_n 0, 1) := by decide +kernel
theorem d_X11_countsOf_57 : decode cX11_countsOf 57 = .ok (.getfield 79, 3) := by decide +kernel
theorem d_X11_countsOf_60 : decode cX11_countsOf 60 = .ok (.iload 5, 2) := by decide +kernel
theorem d_X11_countsOf_62 : decode cX11_countsOf 62 = .ok (.iaload, 1) := by decide +kernel
theorem d_X11_countsOf_63 : decode cX11_countsOf 63 = .ok (.goto 22, 3) := by decide +kernel
theorem d_X11_countsOf_66 : decode cX11_countsOf 66 = .ok (.iload_n 2, 1) := by decide +kernel
theorem d_X11_countsOf_67 : decode cX11_countsOf 67 = .ok (.iconst 1, 1) := by decide +kernel
theorem d_X11_countsOf_68 : decode cX11_countsOf 68 = .ok (.if_icmp .ne 16, 3) := by decide +kernel
theorem d_X11_countsOf_71 : decode cX11_countsOf 71 = .ok (.aload_n 0, 1) := by decide +kernel
theorem d_X11_countsOf_72 : decode cX11_countsOf 72 = .ok (.getfield 79, 3) := by decide +kernel
theorem d_X11_countsOf_75 : decode cX11_countsOf 75 = .ok (.iload 5, 2) := by decide +kernel
theorem d_X11_countsOf_77 : decode cX11_countsOf 77 = .ok (.iaload, 1) := by decide +kernel
theorem d_X11_countsOf_78 : decode cX11_countsOf 78 = .ok (.invokestatic 250, 3) := by decide +kernel
theorem d_X11_countsOf_81 : decode cX11_countsOf 81 = .ok (.goto 4, 3) := by decide +kernel
theorem d_X11_countsOf_84 : decode cX11_countsOf 84 = .ok (.iconst 1, 1) := by decide +kernel
theorem d_X11_countsOf_85 : decode cX11_countsOf 85 = .ok (.iadd, 1) := by decide +kernel
theorem d_X11_countsOf_86 : decode cX11_countsOf 86 = .ok (.istore 4, 2) := by decide +kernel
theorem d_X11_countsOf_88 : decode cX11_countsOf 88 = .ok (.iinc 5 1, 3) := by decide +kernel
theorem d_X11_countsOf_91 : decode cX11_countsOf 91 = .ok (.goto (-71), 3) := by decide +kernel
theorem d_X11_countsOf_94 : decode cX11_countsOf 94 = .ok (.aload_n 0, 1) := by decide +kernel
theorem d_X11_countsOf_95 : decode cX11_countsOf 95 = .ok (.getfield 84, 3) := by decide +kernel
theorem d_X11_countsOf_98 : decode cX11_countsOf 98 = .ok (.iload_n 1, 1) := by decide +kernel
theorem d_X11_countsOf_99 : decode cX11_countsOf 99 = .ok (.aaload, 1) := by decide +kernel
theorem d_X11_countsOf_100 : decode cX11_countsOf 100 = .ok (.iload_n 2, 1) := by decide +kernel
theorem d_X11_countsOf_101 : decode cX11_countsOf 101 = .ok (.aaload, 1) := by decide +kernel
theorem d_X11_countsOf_102 : decode cX11_countsOf 102 = .ok (.iload_n 3, 1) := by decide +kernel
theorem d_X11_countsOf_103 : decode cX11_countsOf 103 = .ok (.iload 4, 2) := by decide +kernel
theorem d_X11_countsOf_105 : decode cX11_countsOf 105 = .ok (.iastore, 1) := by decide +kernel
theorem d_X11_countsOf_106 : decode cX11_countsOf 106 = .ok (.iinc 3 1, 3) := by decide +kernel
theorem d_X11_countsOf_109 : decode cX11_countsOf 109 = .ok (.goto (-100), 3) := by decide +kernel
theorem d_X11_countsOf_112 : decode cX11_countsOf 112 = .ok (.iinc 2 1, 3) := by decide +kernel
theorem d_X11_countsOf_115 : decode cX11_countsOf 115 = .ok (.goto (-113), 3) := by decide +kernel
theorem d_X11_countsOf_118 : decode cX11_countsOf 118 = .ok (.return_, 1) := by decide +kernel
set_option maxRecDepth 100000 in
theorem L_X11_countsOf {p : Program} {l : Launch} {e : Env} {s : State} {m : MethodId} {args : Array Value} {below : List Frame} {meth : Method} {c : Code} {D : va_G} {ca : Nat → ClassId} {ad sx sy : Nat → Nat} {A : Nat → Prop} {Q : QT} (C0 : CX p s m args meth c cX11_countsOf 6 yX11_countsOf.cls D ca ad A) (hE : EX sx sy A s s.heap) (hr : meth.sig.returnType = none) (hno : ∀ x ∈ c.exceptionTable.toList, False) : R_X11_countsOf (JW p l e { frames := 11, cells := 0, slots := 6 * 0, locals := 221 } s m args below meth c 6 D ca ad A (vx_MQ below (Qn D ca ad A Q) (Qx D ca ad A Q) args s 0 (6 * 0) A) gz gz true) Q := ⟨s_ic C0 (d_X11_countsOf_0) hgz (s_isn C0 (d_X11_countsOf_1) hgz (fun _ _ _ h => h)) (okn rfl),
  s_iln C0 (d_X11_countsOf_2) hgz (s_ic C0 (d_X11_countsOf_3) hgz (s_cge C0 (d_X11_countsOf_4) (by decide) hgz hgz (fun _ _ _ h => h) (s_ic C0 (d_X11_countsOf_7) hgz (s_isn C0 (d_X11_countsOf_8) hgz (fun _ _ _ h => h)) (okn rfl))) (okn rfl)),
  s_iln C0 (d_X11_countsOf_9) hgz (s_ic C0 (d_X11_countsOf_10) hgz (s_cge C0 (d_X11_countsOf_11) (by decide) hgz hgz (fun _ _ _ h => h) (s_ic C0 (d_X11_countsOf_14) hgz (s_is C0 (d_X11_countsOf_15) hgz (s_ic C0 (d_X11_countsOf_17) hgz (s_is C0 (d_X11_countsOf_18) hgz (fun _ _ _ h => h)) (okn rfl))) (okn rfl))) (okn rfl)),
  s_il C0 (d_X11_countsOf_20) hgz (s_aln C0 (d_X11_countsOf_22) hgz (s_gr C0 (j := 11) (c0 := 11) rfl gX11 (by decide) rfl rfl wg1212 (d_X11_countsOf_23) hgz (s_ic C0 (d_X11_countsOf_26) hgz (s_ia C0 (d_X11_countsOf_27) hgz (s_cge C0 (d_X11_countsOf_28) (by decide) hgz hgz (fun _ _ _ h => h) (s_aln C0 (d_X11_countsOf_31) hgz (s_gr C0 (j := 17) (c0 := 11) rfl gX11 (by decide) rfl rfl wg1218 (d_X11_countsOf_32) hgz (s_iln C0 (d_X11_countsOf_35) hgz (s_aa C0 (by decide) (by decide) rfl rfl (d_X11_countsOf_36) hgz (s_ic C0 (d_X11_countsOf_37) hgz (s_iln C0 (d_X11_countsOf_38) hgz (s_add C0 (d_X11_countsOf_39) hgz (s_ia C0 (d_X11_countsOf_40) hgz (s_il C0 (d_X11_countsOf_41) hgz (s_shr C0 (d_X11_countsOf_43) hgz (s_ic C0 (d_X11_countsOf_44) hgz (s_and C0 (d_X11_countsOf_45) hgz (s_ic C0 (d_X11_countsOf_46) hgz (s_cne C0 (d_X11_countsOf_47) (by decide) hgz hgz (fun _ _ _ h => h) (s_il C0 (d_X11_countsOf_50) hgz (s_iln C0 (d_X11_countsOf_52) hgz (s_zne C0 (d_X11_countsOf_53) (by decide) hgz hgz (fun _ _ _ h => h) (s_aln C0 (d_X11_countsOf_56) hgz (s_gr C0 (j := 33) (c0 := 11) rfl gX11 (by decide) rfl rfl wg1234 (d_X11_countsOf_57) hgz (s_il C0 (d_X11_countsOf_60) hgz (s_ia C0 (d_X11_countsOf_62) hgz (s_goto C0 (tgt := 85) (d_X11_countsOf_63) (by decide) hgz (fun _ _ _ h => h)))))))))) (okn rfl))) (okn rfl))))))) (okn rfl)))))))) (okn rfl)))),
  s_iln C0 (d_X11_countsOf_66) hgz (s_ic C0 (d_X11_countsOf_67) hgz (s_cne C0 (d_X11_countsOf_68) (by decide) hgz hgz (fun _ _ _ h => h) (s_aln C0 (d_X11_countsOf_71) hgz (s_gr C0 (j := 33) (c0 := 11) rfl gX11 (by decide) rfl rfl wg1234 (d_X11_countsOf_72) hgz (s_il C0 (d_X11_countsOf_75) hgz (s_ia C0 (d_X11_countsOf_77) hgz (s_callS C0 hE (c_X11_root l) wg1508 wg1506 wg1507 wg12 ⟨by decide, by decide⟩ (by decide +kernel) ⟨by decide, by decide⟩ ⟨by decide, by decide⟩ (d_X11_countsOf_78) (fun x hx => (hno x hx).elim) ⟨by decide, by decide⟩ ⟨by decide, by decide⟩ (s_goto C0 (tgt := 85) (d_X11_countsOf_81) (by decide) hgz (fun _ _ _ h => h)))))))) (okn rfl)),
  s_ic C0 (d_X11_countsOf_84) hgz (fun _ _ _ h => h) (okn rfl),
  s_add C0 (d_X11_countsOf_85) hgz (s_is C0 (d_X11_countsOf_86) hgz (fun _ _ _ h => h)),
  s_inc C0 (d_X11_countsOf_88) hgz (s_goto C0 (tgt := 20) (d_X11_countsOf_91) (by decide) hgz (fun _ _ _ h => h)),
  s_aln C0 (d_X11_countsOf_94) hgz (s_gr C0 (j := 34) (c0 := 11) rfl gX11 (by decide) rfl rfl wg1235 (d_X11_countsOf_95) hgz (s_iln C0 (d_X11_countsOf_98) hgz (s_aa C0 (by decide) (by decide) rfl rfl (d_X11_countsOf_99) hgz (s_iln C0 (d_X11_countsOf_100) hgz (s_aa C0 (by decide) (by decide) rfl rfl (d_X11_countsOf_101) hgz (s_iln C0 (d_X11_countsOf_102) hgz (s_il C0 (d_X11_countsOf_103) hgz (s_iax C0 (d_X11_countsOf_105) hgz (s_inc C0 (d_X11_countsOf_106) hgz (s_goto C0 (tgt := 9) (d_X11_countsOf_109) (by decide) hgz (fun _ _ _ h => h))))))))))),
  s_inc C0 (d_X11_countsOf_112) hgz (s_goto C0 (tgt := 2) (d_X11_countsOf_115) (by decide) hgz (fun _ _ _ h => h)),
  s_rv C0 hr (d_X11_countsOf_118) ⟨by decide, by decide⟩⟩
theorem c_X11_countsOf (l : Launch) : Ctr l yX11_countsOf cX11_countsOf 6 none 11 221 0 (fun sx => (nf G_X11_countsOf)) := ctr_of (by decide) gz gz ⟨rfl, rfl⟩ (fun p e s m args below meth c D ca ad sx sy A Q as M C0 hE hr hno hF => P_X11_countsOf (L_X11_countsOf C0 hE hr hno) hF)
theorem d_X11_passesBy_0 : decode cX11_passesBy 0 = .ok (.iconst 0, 1) := by decide +kernel
theorem d_X11_passesBy_1 : decode cX11_passesBy 1 = .ok (.istore_n 2, 1) := by decide +kernel
theorem d_X11_passesBy_2 : decode cX11_passesBy 2 = .ok (.iconst 0, 1) := by decide +kernel
theorem d_X11_passesBy_3 : decode cX11_passesBy 3 = .ok (.istore_n 3, 1) := by decide +kernel
theorem d_X11_passesBy_4 : decode cX11_passesBy 4 = .ok (.iload_n 3, 1) := by decide +kernel
theorem d_X11_passesBy_5 : decode cX11_passesBy 5 = .ok (.aload_n 0, 1) := by decide +kernel
theorem d_X11_passesBy_6 : decode cX11_passesBy 6 = .ok (.getfield 23, 3) := by decide +kernel
theorem d_X11_passesBy_9 : decode cX11_passesBy 9 = .ok (.iconst 3, 1) := by decide +kernel
theorem d_X11_passesBy_10 : decode cX11_passesBy 10 = .ok (.iaload, 1) := by decide +kernel
theorem d_X11_passesBy_11 : decode cX11_passesBy 11 = .ok (.if_icmp .ge 42, 3) := by decide +kernel
theorem d_X11_passesBy_14 : decode cX11_passesBy 14 = .ok (.iload_n 2, 1) := by decide +kernel
theorem d_X11_passesBy_15 : decode cX11_passesBy 15 = .ok (.aload_n 0, 1) := by decide +kernel
theorem d_X11_passesBy_16 : decode cX11_passesBy 16 = .ok (.getfield 84, 3) := by decide +kernel
theorem d_X11_passesBy_19 : decode cX11_passesBy 19 = .ok (.iload_n 3, 1) := by decide +kernel
theorem d_X11_passesBy_20 : decode cX11_passesBy 20 = .ok (.aaload, 1) := by decide +kernel
theorem d_X11_passesBy_21 : decode cX11_passesBy 21 = .ok (.iload_n 1, 1) := by decide +kernel
theorem d_X11_passesBy_22 : decode cX11_passesBy 22 = .ok (.aaload, 1) := by decide +kernel
theorem d_X11_passesBy_23 : decode cX11_passesBy 23 = .ok (.iconst 0, 1) := by decide +kernel
theorem d_X11_passesBy_24 : decode cX11_passesBy 24 = .ok (.iaload, 1) := by decide +kernel
theorem d_X11_passesBy_25 : decode cX11_passesBy 25 = .ok (.aload_n 0, 1) := by decide +kernel
theorem d_X11_passesBy_26 : decode cX11_passesBy 26 = .ok (.getfield 84, 3) := by decide +kernel
theorem d_X11_passesBy_29 : decode cX11_passesBy 29 = .ok (.iload_n 3, 1) := by decide +kernel
theorem d_X11_passesBy_30 : decode cX11_passesBy 30 = .ok (.aaload, 1) := by decide +kernel
theorem d_X11_passesBy_31 : decode cX11_passesBy 31 = .ok (.iload_n 1, 1) := by decide +kernel
theorem d_X11_passesBy_32 : decode cX11_passesBy 32 = .ok (.aaload, 1) := by decide +kernel
theorem d_X11_passesBy_33 : decode cX11_passesBy 33 = .ok (.iconst 1, 1) := by decide +kernel
theorem d_X11_passesBy_34 : decode cX11_passesBy 34 = .ok (.iaload, 1) := by decide +kernel
theorem d_X11_passesBy_35 : decode cX11_passesBy 35 = .ok (.if_icmp .le 9, 3) := by decide +kernel
theorem d_X11_passesBy_38 : decode cX11_passesBy 38 = .ok (.iconst 1, 1) := by decide +kernel
theorem d_X11_passesBy_39 : decode cX11_passesBy 39 = .ok (.iload_n 3, 1) := by decide +kernel
theorem d_X11_passesBy_40 : decode cX11_passesBy 40 = .ok (.ishl, 1) := by decide +kernel
theorem d_X11_passesBy_41 : decode cX11_passesBy 41 = .ok (.goto 4, 3) := by decide +kernel
theorem d_X11_passesBy_44 : decode cX11_passesBy 44 = .ok (.iconst 0, 1) := by decide +kernel
theorem d_X11_passesBy_45 : decode cX11_passesBy 45 = .ok (.ior, 1) := by decide +kernel
theorem d_X11_passesBy_46 : decode cX11_passesBy 46 = .ok (.istore_n 2, 1) := by decide +kernel
theorem d_X11_passesBy_47 : decode cX11_passesBy 47 = .ok (.iinc 3 1, 3) := by decide +kernel
theorem d_X11_passesBy_50 : decode cX11_passesBy 50 = .ok (.goto (-46), 3) := by decide +kernel
theorem d_X11_passesBy_53 : decode cX11_passesBy 53 = .ok (.iload_n 2, 1) := by decide +kernel
theorem d_X11_passesBy_54 : decode cX11_passesBy 54 = .ok (.ireturn, 1) := by decide +kernel
set_option maxRecDepth 100000 in
theorem L_X11_passesBy {p : Program} {l : Launch} {e : Env} {s : State} {m : MethodId} {args : Array Value} {below : List Frame} {meth : Method} {c : Code} {D : va_G} {ca : Nat → ClassId} {ad sx sy : Nat → Nat} {A : Nat → Prop} {Q : QT} (C0 : CX p s m args meth c cX11_passesBy 4 yX11_passesBy.cls D ca ad A) (hE : EX sx sy A s s.heap) (hr : meth.sig.returnType = (some .int)) (hno : ∀ x ∈ c.exceptionTable.toList, False) : R_X11_passesBy (JW p l e { frames := 10, cells := 0, slots := 6 * 0, locals := 200 } s m args below meth c 4 D ca ad A (vx_MQ below (Qn D ca ad A Q) (Qx D ca ad A Q) args s 0 (6 * 0) A) gz gz true) Q := ⟨s_ic C0 (d_X11_passesBy_0) hgz (s_isn C0 (d_X11_passesBy_1) hgz (s_ic C0 (d_X11_passesBy_2) hgz (s_isn C0 (d_X11_passesBy_3) hgz (fun _ _ _ h => h)) (okn rfl))) (okn rfl),
  s_iln C0 (d_X11_passesBy_4) hgz (s_aln C0 (d_X11_passesBy_5) hgz (s_gr C0 (j := 11) (c0 := 11) rfl gX11 (by decide) rfl rfl wg1212 (d_X11_passesBy_6) hgz (s_ic C0 (d_X11_passesBy_9) hgz (s_ia C0 (d_X11_passesBy_10) hgz (s_cge C0 (d_X11_passesBy_11) (by decide) hgz hgz (fun _ _ _ h => h) (s_iln C0 (d_X11_passesBy_14) hgz (s_aln C0 (d_X11_passesBy_15) hgz (s_gr C0 (j := 34) (c0 := 11) rfl gX11 (by decide) rfl rfl wg1235 (d_X11_passesBy_16) hgz (s_iln C0 (d_X11_passesBy_19) hgz (s_aa C0 (by decide) (by decide) rfl rfl (d_X11_passesBy_20) hgz (s_iln C0 (d_X11_passesBy_21) hgz (s_aa C0 (by decide) (by decide) rfl rfl (d_X11_passesBy_22) hgz (s_ic C0 (d_X11_passesBy_23) hgz (s_ia C0 (d_X11_passesBy_24) hgz (s_aln C0 (d_X11_passesBy_25) hgz (s_gr C0 (j := 34) (c0 := 11) rfl gX11 (by decide) rfl rfl wg1235 (d_X11_passesBy_26) hgz (s_iln C0 (d_X11_passesBy_29) hgz (s_aa C0 (by decide) (by decide) rfl rfl (d_X11_passesBy_30) hgz (s_iln C0 (d_X11_passesBy_31) hgz (s_aa C0 (by decide) (by decide) rfl rfl (d_X11_passesBy_32) hgz (s_ic C0 (d_X11_passesBy_33) hgz (s_ia C0 (d_X11_passesBy_34) hgz (s_cle C0 (d_X11_passesBy_35) (by decide) hgz hgz (fun _ _ _ h => h) (s_ic C0 (d_X11_passesBy_38) hgz (s_iln C0 (d_X11_passesBy_39) hgz (s_shl C0 (d_X11_passesBy_40) hgz (s_goto C0 (tgt := 45) (d_X11_passesBy_41) (by decide) hgz (fun _ _ _ h => h)))) (okn rfl)))) (okn rfl))))))))) (okn rfl))))))))))) (okn rfl)))),
  s_ic C0 (d_X11_passesBy_44) hgz (fun _ _ _ h => h) (okn rfl),
  s_or C0 (d_X11_passesBy_45) hgz (s_isn C0 (d_X11_passesBy_46) hgz (s_inc C0 (d_X11_passesBy_47) hgz (s_goto C0 (tgt := 4) (d_X11_passesBy_50) (by decide) hgz (fun _ _ _ h => h)))),
  s_iln C0 (d_X11_passesBy_53) hgz (s_ri C0 hr (d_X11_passesBy_54) ⟨by decide, by decide⟩)⟩
theorem c_X11_passesBy (l : Launch) : Ctr l yX11_passesBy cX11_passesBy 4 (some .int) 10 200 0 (fun sx => (nf G_X11_passesBy)) := ctr_of (by decide) gz gz ⟨rfl, rfl⟩ (fun p e s m args below meth c D ca ad sx sy A Q as M C0 hE hr hno hF => P_X11_passesBy (L_X11_passesBy C0 hE hr hno) hF)
theorem d_X11_isThing_0 : decode cX11_isThing 0 = .ok (.iload_n 1, 1) := by decide +kernel
theorem d_X11_isThing_1 : decode cX11_isThing 1 = .ok (.iconst 0, 1) := by decide +kernel
theorem d_X11_isThing_2 : decode cX11_isThing 2 = .ok (.aload_n 0, 1) := by decide +kernel
theorem d_X11_isThing_3 : decode cX11_isThing 3 = .ok (.getfield 23, 3) := by decide +kernel
theorem d_X11_isThing_6 : decode cX11_isThing 6 = .ok (.iconst 1, 1) := by decide +kernel
theorem d_X11_isThing_7 : decode cX11_isThing 7 = .ok (.iaload, 1) := by decide +kernel
theorem d_X11_isThing_8 : decode cX11_isThing 8 = .ok (.iconst 1, 1) := by decide +kernel
theorem d_X11_isThing_9 : decode cX11_isThing 9 = .ok (.isub, 1) := by decide +kernel
theorem d_X11_isThing_10 : decode cX11_isThing 10 = .ok (.invokestatic 140, 3) := by decide +kernel
theorem d_X11_isThing_13 : decode cX11_isThing 13 = .ok (.ireturn, 1) := by decide +kernel
set_option maxRecDepth 100000 in
theorem L_X11_isThing {p : Program} {l : Launch} {e : Env} {s : State} {m : MethodId} {args : Array Value} {below : List Frame} {meth : Method} {c : Code} {D : va_G} {ca : Nat → ClassId} {ad sx sy : Nat → Nat} {A : Nat → Prop} {Q : QT} (C0 : CX p s m args meth c cX11_isThing 2 yX11_isThing.cls D ca ad A) (hE : EX sx sy A s s.heap) (hr : meth.sig.returnType = (some .boolean)) (hno : ∀ x ∈ c.exceptionTable.toList, False) : R_X11_isThing (JW p l e { frames := 11, cells := 0, slots := 6 * 0, locals := 222 } s m args below meth c 2 D ca ad A (vx_MQ below (Qn D ca ad A Q) (Qx D ca ad A Q) args s 0 (6 * 0) A) gz gz true) Q := s_iln C0 (d_X11_isThing_0) hgz (s_ic C0 (d_X11_isThing_1) hgz (s_aln C0 (d_X11_isThing_2) hgz (s_gr C0 (j := 11) (c0 := 11) rfl gX11 (by decide) rfl rfl wg1212 (d_X11_isThing_3) hgz (s_ic C0 (d_X11_isThing_6) hgz (s_ia C0 (d_X11_isThing_7) hgz (s_ic C0 (d_X11_isThing_8) hgz (s_sub C0 (d_X11_isThing_9) hgz (s_callS C0 hE (c_X11_in l) wg1355 wg1353 wg1354 wg12 ⟨by decide, by decide⟩ (by decide +kernel) ⟨by decide, by decide⟩ ⟨by decide, by decide⟩ (d_X11_isThing_10) (fun x hx => (hno x hx).elim) ⟨by decide, by decide⟩ ⟨by decide, by decide⟩ (s_rz C0 hr (d_X11_isThing_13) ⟨by decide, by decide⟩))) (okn rfl))) (okn rfl)))) (okn rfl))
theorem c_X11_isThing (l : Launch) : Ctr l yX11_isThing cX11_isThing 2 (some .boolean) 11 222 0 (fun sx => (nf G_X11_isThing)) := ctr_of (by decide) gz gz ⟨rfl, rfl⟩ (fun p e s m args below meth c D ca ad sx sy A Q as M C0 hE hr hno hF => P_X11_isThing (L_X11_isThing C0 hE hr hno) hF)
theorem wg1238 : Cond.fieldLink "WeighedHallModel" 232 "WeighedHallModel" "laterBy" "I" ∈ GT := gt_mem 1358 (by decide +kernel) rfl
theorem wg1237 : Cond.fieldLink "WeighedHallModel" 229 "WeighedHallModel" "laterFrom" "I" ∈ GT := gt_mem 1357 (by decide +kernel) rfl
theorem d_X11_later_0 : decode cX11_later 0 = .ok (.iload_n 1, 1) := by decide +kernel
theorem d_X11_later_1 : decode cX11_later 1 = .ok (.aload_n 0, 1) := by decide +kernel
theorem d_X11_later_2 : decode cX11_later 2 = .ok (.getfield 229, 3) := by decide +kernel
theorem d_X11_later_5 : decode cX11_later 5 = .ok (.if_icmp .lt 12, 3) := by decide +kernel
theorem d_X11_later_8 : decode cX11_later 8 = .ok (.iload_n 1, 1) := by decide +kernel
theorem d_X11_later_9 : decode cX11_later 9 = .ok (.aload_n 0, 1) := by decide +kernel
theorem d_X11_later_10 : decode cX11_later 10 = .ok (.getfield 232, 3) := by decide +kernel
theorem d_X11_later_13 : decode cX11_later 13 = .ok (.iadd, 1) := by decide +kernel
theorem d_X11_later_14 : decode cX11_later 14 = .ok (.goto 4, 3) := by decide +kernel
theorem d_X11_later_17 : decode cX11_later 17 = .ok (.iload_n 1, 1) := by decide +kernel
theorem d_X11_later_18 : decode cX11_later 18 = .ok (.ireturn, 1) := by decide +kernel
set_option maxRecDepth 100000 in
theorem L_X11_later {p : Program} {l : Launch} {e : Env} {s : State} {m : MethodId} {args : Array Value} {below : List Frame} {meth : Method} {c : Code} {D : va_G} {ca : Nat → ClassId} {ad sx sy : Nat → Nat} {A : Nat → Prop} {Q : QT} (C0 : CX p s m args meth c cX11_later 2 yX11_later.cls D ca ad A) (hE : EX sx sy A s s.heap) (hr : meth.sig.returnType = (some .int)) (hno : ∀ x ∈ c.exceptionTable.toList, False) : R_X11_later (JW p l e { frames := 10, cells := 0, slots := 6 * 0, locals := 200 } s m args below meth c 2 D ca ad A (vx_MQ below (Qn D ca ad A Q) (Qx D ca ad A Q) args s 0 (6 * 0) A) gz gz true) Q := ⟨s_iln C0 (d_X11_later_0) hgz (s_aln C0 (d_X11_later_1) hgz (s_gi C0 (j := 36) (c0 := 11) rfl gX11 (by decide) rfl (by decide) wg1237 (d_X11_later_2) hgz (s_clt C0 (d_X11_later_5) (by decide) hgz hgz (fun _ _ _ h => h) (s_iln C0 (d_X11_later_8) hgz (s_aln C0 (d_X11_later_9) hgz (s_gi C0 (j := 37) (c0 := 11) rfl gX11 (by decide) rfl (by decide) wg1238 (d_X11_later_10) hgz (s_add C0 (d_X11_later_13) hgz (s_goto C0 (tgt := 18) (d_X11_later_14) (by decide) hgz (fun _ _ _ h => h))))))))),
  s_iln C0 (d_X11_later_17) hgz (fun _ _ _ h => h),
  s_ri C0 hr (d_X11_later_18) ⟨by decide, by decide⟩⟩
theorem c_X11_later (l : Launch) : Ctr l yX11_later cX11_later 2 (some .int) 10 200 0 (fun sx => (nf G_X11_later)) := ctr_of (by decide) gz gz ⟨rfl, rfl⟩ (fun p e s m args below meth c D ca ad sx sy A Q as M C0 hE hr hno hF => P_X11_later (L_X11_later C0 hE hr hno) hF)
theorem d_X11_drops_0 : decode cX11_drops 0 = .ok (.aload_n 0, 1) := by decide +kernel
theorem d_X11_drops_1 : decode cX11_drops 1 = .ok (.getfield 76, 3) := by decide +kernel
theorem d_X11_drops_4 : decode cX11_drops 4 = .ok (.iload_n 1, 1) := by decide +kernel
theorem d_X11_drops_5 : decode cX11_drops 5 = .ok (.iload_n 2, 1) := by decide +kernel
theorem d_X11_drops_6 : decode cX11_drops 6 = .ok (.iastore, 1) := by decide +kernel
theorem d_X11_drops_7 : decode cX11_drops 7 = .ok (.iconst 0, 1) := by decide +kernel
theorem d_X11_drops_8 : decode cX11_drops 8 = .ok (.istore_n 3, 1) := by decide +kernel
theorem d_X11_drops_9 : decode cX11_drops 9 = .ok (.iload_n 3, 1) := by decide +kernel
theorem d_X11_drops_10 : decode cX11_drops 10 = .ok (.aload_n 0, 1) := by decide +kernel
theorem d_X11_drops_11 : decode cX11_drops 11 = .ok (.getfield 23, 3) := by decide +kernel
theorem d_X11_drops_14 : decode cX11_drops 14 = .ok (.iconst 1, 1) := by decide +kernel
theorem d_X11_drops_15 : decode cX11_drops 15 = .ok (.iaload, 1) := by decide +kernel
theorem d_X11_drops_16 : decode cX11_drops 16 = .ok (.if_icmp .ge 36, 3) := by decide +kernel
theorem d_X11_drops_19 : decode cX11_drops 19 = .ok (.aload_n 0, 1) := by decide +kernel
theorem d_X11_drops_20 : decode cX11_drops 20 = .ok (.getfield 64, 3) := by decide +kernel
theorem d_X11_drops_23 : decode cX11_drops 23 = .ok (.iload_n 3, 1) := by decide +kernel
theorem d_X11_drops_24 : decode cX11_drops 24 = .ok (.iaload, 1) := by decide +kernel
theorem d_X11_drops_25 : decode cX11_drops 25 = .ok (.iload_n 1, 1) := by decide +kernel
theorem d_X11_drops_26 : decode cX11_drops 26 = .ok (.if_icmp .eq 6, 3) := by decide +kernel
theorem d_X11_drops_29 : decode cX11_drops 29 = .ok (.goto 17, 3) := by decide +kernel
theorem d_X11_drops_32 : decode cX11_drops 32 = .ok (.aload_n 0, 1) := by decide +kernel
theorem d_X11_drops_33 : decode cX11_drops 33 = .ok (.getfield 64, 3) := by decide +kernel
theorem d_X11_drops_36 : decode cX11_drops 36 = .ok (.iload_n 3, 1) := by decide +kernel
theorem d_X11_drops_37 : decode cX11_drops 37 = .ok (.iconst (-1), 1) := by decide +kernel
theorem d_X11_drops_38 : decode cX11_drops 38 = .ok (.iastore, 1) := by decide +kernel
theorem d_X11_drops_39 : decode cX11_drops 39 = .ok (.aload_n 0, 1) := by decide +kernel
theorem d_X11_drops_40 : decode cX11_drops 40 = .ok (.getfield 67, 3) := by decide +kernel
theorem d_X11_drops_43 : decode cX11_drops 43 = .ok (.iload_n 3, 1) := by decide +kernel
theorem d_X11_drops_44 : decode cX11_drops 44 = .ok (.iconst (-1), 1) := by decide +kernel
theorem d_X11_drops_45 : decode cX11_drops 45 = .ok (.iastore, 1) := by decide +kernel
theorem d_X11_drops_46 : decode cX11_drops 46 = .ok (.iinc 3 1, 3) := by decide +kernel
theorem d_X11_drops_49 : decode cX11_drops 49 = .ok (.goto (-40), 3) := by decide +kernel
theorem d_X11_drops_52 : decode cX11_drops 52 = .ok (.return_, 1) := by decide +kernel
set_option maxRecDepth 100000 in
theorem L_X11_drops {p : Program} {l : Launch} {e : Env} {s : State} {m : MethodId} {args : Array Value} {below : List Frame} {meth : Method} {c : Code} {D : va_G} {ca : Nat → ClassId} {ad sx sy : Nat → Nat} {A : Nat → Prop} {Q : QT} (C0 : CX p s m args meth c cX11_drops 4 yX11_drops.cls D ca ad A) (hE : EX sx sy A s s.heap) (hr : meth.sig.returnType = none) (hno : ∀ x ∈ c.exceptionTable.toList, False) : R_X11_drops (JW p l e { frames := 10, cells := 0, slots := 6 * 0, locals := 200 } s m args below meth c 4 D ca ad A (vx_MQ below (Qn D ca ad A Q) (Qx D ca ad A Q) args s 0 (6 * 0) A) gz gz true) Q := ⟨s_aln C0 (d_X11_drops_0) hgz (s_gr C0 (j := 32) (c0 := 11) rfl gX11 (by decide) rfl rfl wg1233 (d_X11_drops_1) hgz (s_iln C0 (d_X11_drops_4) hgz (s_iln C0 (d_X11_drops_5) hgz (s_iax C0 (d_X11_drops_6) hgz (s_ic C0 (d_X11_drops_7) hgz (s_isn C0 (d_X11_drops_8) hgz (fun _ _ _ h => h)) (okn rfl)))))),
  s_iln C0 (d_X11_drops_9) hgz (s_aln C0 (d_X11_drops_10) hgz (s_gr C0 (j := 11) (c0 := 11) rfl gX11 (by decide) rfl rfl wg1212 (d_X11_drops_11) hgz (s_ic C0 (d_X11_drops_14) hgz (s_ia C0 (d_X11_drops_15) hgz (s_cge C0 (d_X11_drops_16) (by decide) hgz hgz (fun _ _ _ h => h) (s_aln C0 (d_X11_drops_19) hgz (s_gr C0 (j := 28) (c0 := 11) rfl gX11 (by decide) rfl rfl wg1229 (d_X11_drops_20) hgz (s_iln C0 (d_X11_drops_23) hgz (s_ia C0 (d_X11_drops_24) hgz (s_iln C0 (d_X11_drops_25) hgz (s_ceq C0 (d_X11_drops_26) (by decide) hgz hgz (fun _ _ _ h => h) (s_goto C0 (tgt := 46) (d_X11_drops_29) (by decide) hgz (fun _ _ _ h => h)))))))))) (okn rfl)))),
  s_aln C0 (d_X11_drops_32) hgz (s_gr C0 (j := 28) (c0 := 11) rfl gX11 (by decide) rfl rfl wg1229 (d_X11_drops_33) hgz (s_iln C0 (d_X11_drops_36) hgz (s_ic C0 (d_X11_drops_37) hgz (s_iax C0 (d_X11_drops_38) hgz (s_aln C0 (d_X11_drops_39) hgz (s_gr C0 (j := 29) (c0 := 11) rfl gX11 (by decide) rfl rfl wg1230 (d_X11_drops_40) hgz (s_iln C0 (d_X11_drops_43) hgz (s_ic C0 (d_X11_drops_44) hgz (s_iax C0 (d_X11_drops_45) hgz (fun _ _ _ h => h)) (okn rfl)))))) (okn rfl)))),
  s_inc C0 (d_X11_drops_46) hgz (s_goto C0 (tgt := 9) (d_X11_drops_49) (by decide) hgz (fun _ _ _ h => h)),
  s_rv C0 hr (d_X11_drops_52) ⟨by decide, by decide⟩⟩
theorem c_X11_drops (l : Launch) : Ctr l yX11_drops cX11_drops 4 none 10 200 0 (fun sx => (nf G_X11_drops)) := ctr_of (by decide) gz gz ⟨rfl, rfl⟩ (fun p e s m args below meth c D ca ad sx sy A Q as M C0 hE hr hno hF => P_X11_drops (L_X11_drops C0 hE hr hno) hF)
theorem d_X11_weighs_0 : decode cX11_weighs 0 = .ok (.iconst 0, 1) := by decide +kernel
theorem d_X11_weighs_1 : decode cX11_weighs 1 = .ok (.istore_n 1, 1) := by decide +kernel
theorem d_X11_weighs_2 : decode cX11_weighs 2 = .ok (.iload_n 1, 1) := by decide +kernel
theorem d_X11_weighs_3 : decode cX11_weighs 3 = .ok (.aload_n 0, 1) := by decide +kernel
theorem d_X11_weighs_4 : decode cX11_weighs 4 = .ok (.getfield 23, 3) := by decide +kernel
theorem d_X11_weighs_7 : decode cX11_weighs 7 = .ok (.iconst 0, 1) := by decide +kernel
theorem d_X11_weighs_8 : decode cX11_weighs 8 = .ok (.iaload, 1) := by decide +kernel
theorem d_X11_weighs_9 : decode cX11_weighs 9 = .ok (.if_icmp .ge 16, 3) := by decide +kernel
theorem d_X11_weighs_12 : decode cX11_weighs 12 = .ok (.aload_n 0, 1) := by decide +kernel
theorem d_X11_weighs_13 : decode cX11_weighs 13 = .ok (.getfield 79, 3) := by decide +kernel
theorem d_X11_weighs_16 : decode cX11_weighs 16 = .ok (.iload_n 1, 1) := by decide +kernel
theorem d_X11_weighs_17 : decode cX11_weighs 17 = .ok (.iconst 0, 1) := by decide +kernel
theorem d_X11_weighs_18 : decode cX11_weighs 18 = .ok (.iastore, 1) := by decide +kernel
theorem d_X11_weighs_19 : decode cX11_weighs 19 = .ok (.iinc 1 1, 3) := by decide +kernel
theorem d_X11_weighs_22 : decode cX11_weighs 22 = .ok (.goto (-20), 3) := by decide +kernel
theorem d_X11_weighs_25 : decode cX11_weighs 25 = .ok (.iconst 0, 1) := by decide +kernel
theorem d_X11_weighs_26 : decode cX11_weighs 26 = .ok (.istore_n 1, 1) := by decide +kernel
theorem d_X11_weighs_27 : decode cX11_weighs 27 = .ok (.iload_n 1, 1) := by decide +kernel
theorem d_X11_weighs_28 : decode cX11_weighs 28 = .ok (.aload_n 0, 1) := by decide +kernel
theorem d_X11_weighs_29 : decode cX11_weighs 29 = .ok (.getfield 23, 3) := by decide +kernel
theorem d_X11_weighs_32 : decode cX11_weighs 32 = .ok (.iconst 1, 1) := by decide +kernel
theorem d_X11_weighs_33 : decode cX11_weighs 33 = .ok (.iaload, 1) := by decide +kernel
theorem d_X11_weighs_34 : decode cX11_weighs 34 = .ok (.if_icmp .ge 48, 3) := by decide +kernel
theorem d_X11_weighs_37 : decode cX11_weighs 37 = .ok (.aload_n 0, 1) := by decide +kernel
theorem d_X11_weighs_38 : decode cX11_weighs 38 = .ok (.getfield 64, 3) := by decide +kernel
theorem d_X11_weighs_41 : decode cX11_weighs 41 = .ok (.iload_n 1, 1) := by decide +kernel
theorem d_X11_weighs_42 : decode cX11_weighs 42 = .ok (.iaload, 1) := by decide +kernel
theorem d_X11_weighs_43 : decode cX11_weighs 43 = .ok (.ifCond .lt 33, 3) := by decide +kernel
theorem d_X11_weighs_46 : decode cX11_weighs 46 = .ok (.iload_n 1, 1) := by decide +kernel
theorem d_X11_weighs_47 : decode cX11_weighs 47 = .ok (.aload_n 0, 1) := by decide +kernel
theorem d_X11_weighs_48 : decode cX11_weighs 48 = .ok (.getfield 87, 3) := by decide +kernel
theorem d_X11_weighs_51 : decode cX11_weighs 51 = .ok (.if_icmp .eq 25, 3) := by decide +kernel
theorem d_X11_weighs_54 : decode cX11_weighs 54 = .ok (.aload_n 0, 1) := by decide +kernel
theorem d_X11_weighs_55 : decode cX11_weighs 55 = .ok (.getfield 79, 3) := by decide +kernel
theorem d_X11_weighs_58 : decode cX11_weighs 58 = .ok (.aload_n 0, 1) := by decide +kernel
theorem d_X11_weighs_59 : decode cX11_weighs 59 = .ok (.getfield 64, 3) := by decide +kernel
theorem d_X11_weighs_62 : decode cX11_weighs 62 = .ok (.iload_n 1, 1) := by decide +kernel
theorem d_X11_weighs_63 : decode cX11_weighs 63 = .ok (.iaload, 1) := by decide +kernel
theorem d_X11_weighs_64 : decode cX11_weighs 64 = .ok (.dup2, 1) := by decide +kernel
theorem d_X11_weighs_65 : decode cX11_weighs 65 = .ok (.iaload, 1) := by decide +kernel
theorem d_X11_weighs_66 : decode cX11_weighs 66 = .ok (.aload_n 0, 1) := by decide +kernel
theorem d_X11_weighs_67 : decode cX11_weighs 67 = .ok (.getfield 37, 3) := by decide +kernel
theorem d_X11_weighs_70 : decode cX11_weighs 70 = .ok (.iload_n 1, 1) := by decide +kernel
theorem d_X11_weighs_71 : decode cX11_weighs 71 = .ok (.aaload, 1) := by decide +kernel
theorem d_X11_weighs_72 : decode cX11_weighs 72 = .ok (.iconst 1, 1) := by decide +kernel
theorem d_X11_weighs_73 : decode cX11_weighs 73 = .ok (.iaload, 1) := by decide +kernel
theorem d_X11_weighs_74 : decode cX11_weighs 74 = .ok (.iadd, 1) := by decide +kernel
theorem d_X11_weighs_75 : decode cX11_weighs 75 = .ok (.iastore, 1) := by decide +kernel
theorem d_X11_weighs_76 : decode cX11_weighs 76 = .ok (.iinc 1 1, 3) := by decide +kernel
theorem d_X11_weighs_79 : decode cX11_weighs 79 = .ok (.goto (-52), 3) := by decide +kernel
theorem d_X11_weighs_82 : decode cX11_weighs 82 = .ok (.return_, 1) := by decide +kernel
set_option maxRecDepth 100000 in
theorem L_X11_weighs {p : Program} {l : Launch} {e : Env} {s : State} {m : MethodId} {args : Array Value} {below : List Frame} {meth : Method} {c : Code} {D : va_G} {ca : Nat → ClassId} {ad sx sy : Nat → Nat} {A : Nat → Prop} {Q : QT} (C0 : CX p s m args meth c cX11_weighs 2 yX11_weighs.cls D ca ad A) (hE : EX sx sy A s s.heap) (hr : meth.sig.returnType = none) (hno : ∀ x ∈ c.exceptionTable.toList, False) : R_X11_weighs (JW p l e { frames := 10, cells := 0, slots := 6 * 0, locals := 200 } s m args below meth c 2 D ca ad A (vx_MQ below (Qn D ca ad A Q) (Qx D ca ad A Q) args s 0 (6 * 0) A) gz gz true) Q := ⟨s_ic C0 (d_X11_weighs_0) hgz (s_isn C0 (d_X11_weighs_1) hgz (fun _ _ _ h => h)) (okn rfl),
  s_iln C0 (d_X11_weighs_2) hgz (s_aln C0 (d_X11_weighs_3) hgz (s_gr C0 (j := 11) (c0 := 11) rfl gX11 (by decide) rfl rfl wg1212 (d_X11_weighs_4) hgz (s_ic C0 (d_X11_weighs_7) hgz (s_ia C0 (d_X11_weighs_8) hgz (s_cge C0 (d_X11_weighs_9) (by decide) hgz hgz (fun _ _ _ h => h) (s_aln C0 (d_X11_weighs_12) hgz (s_gr C0 (j := 33) (c0 := 11) rfl gX11 (by decide) rfl rfl wg1234 (d_X11_weighs_13) hgz (s_iln C0 (d_X11_weighs_16) hgz (s_ic C0 (d_X11_weighs_17) hgz (s_iax C0 (d_X11_weighs_18) hgz (s_inc C0 (d_X11_weighs_19) hgz (s_goto C0 (tgt := 2) (d_X11_weighs_22) (by decide) hgz (fun _ _ _ h => h)))) (okn rfl))))))) (okn rfl)))),
  s_ic C0 (d_X11_weighs_25) hgz (s_isn C0 (d_X11_weighs_26) hgz (fun _ _ _ h => h)) (okn rfl),
  s_iln C0 (d_X11_weighs_27) hgz (s_aln C0 (d_X11_weighs_28) hgz (s_gr C0 (j := 11) (c0 := 11) rfl gX11 (by decide) rfl rfl wg1212 (d_X11_weighs_29) hgz (s_ic C0 (d_X11_weighs_32) hgz (s_ia C0 (d_X11_weighs_33) hgz (s_cge C0 (d_X11_weighs_34) (by decide) hgz hgz (fun _ _ _ h => h) (s_aln C0 (d_X11_weighs_37) hgz (s_gr C0 (j := 28) (c0 := 11) rfl gX11 (by decide) rfl rfl wg1229 (d_X11_weighs_38) hgz (s_iln C0 (d_X11_weighs_41) hgz (s_ia C0 (d_X11_weighs_42) hgz (s_zlt C0 (d_X11_weighs_43) (by decide) hgz hgz (fun _ _ _ h => h) (s_iln C0 (d_X11_weighs_46) hgz (s_aln C0 (d_X11_weighs_47) hgz (s_gi C0 (j := 35) (c0 := 11) rfl gX11 (by decide) rfl (by decide) wg1236 (d_X11_weighs_48) hgz (s_ceq C0 (d_X11_weighs_51) (by decide) hgz hgz (fun _ _ _ h => h) (s_aln C0 (d_X11_weighs_54) hgz (s_gr C0 (j := 33) (c0 := 11) rfl gX11 (by decide) rfl rfl wg1234 (d_X11_weighs_55) hgz (s_aln C0 (d_X11_weighs_58) hgz (s_gr C0 (j := 28) (c0 := 11) rfl gX11 (by decide) rfl rfl wg1229 (d_X11_weighs_59) hgz (s_iln C0 (d_X11_weighs_62) hgz (s_ia C0 (d_X11_weighs_63) hgz (s_dup2 C0 (d_X11_weighs_64) hgz (s_ia C0 (d_X11_weighs_65) hgz (s_aln C0 (d_X11_weighs_66) hgz (s_gr C0 (j := 15) (c0 := 11) rfl gX11 (by decide) rfl rfl wg1216 (d_X11_weighs_67) hgz (s_iln C0 (d_X11_weighs_70) hgz (s_aa C0 (by decide) (by decide) rfl rfl (d_X11_weighs_71) hgz (s_ic C0 (d_X11_weighs_72) hgz (s_ia C0 (d_X11_weighs_73) hgz (s_add C0 (d_X11_weighs_74) hgz (s_iax C0 (d_X11_weighs_75) hgz (fun _ _ _ h => h)))) (okn rfl))))))))))))))))))))))))) (okn rfl)))),
  s_inc C0 (d_X11_weighs_76) hgz (s_goto C0 (tgt := 27) (d_X11_weighs_79) (by decide) hgz (fun _ _ _ h => h)),
  s_rv C0 hr (d_X11_weighs_82) ⟨by decide, by decide⟩⟩
theorem c_X11_weighs (l : Launch) : Ctr l yX11_weighs cX11_weighs 2 none 10 200 0 (fun sx => (nf G_X11_weighs)) := ctr_of (by decide) gz gz ⟨rfl, rfl⟩ (fun p e s m args below meth c D ca ad sx sy A Q as M C0 hE hr hno hF => P_X11_weighs (L_X11_weighs C0 hE hr hno) hF)
theorem wg1489 : Cond.code ⟨"WeighedHallModel", "comesTo", "(II)V"⟩ prog_13_method_36_code 3 (Option.none : Option FieldType) ∈ GT := gt_mem 1609 (by decide +kernel) rfl
theorem wg1486 : Cond.methodLink "WeighedHallModel" 235 ⟨"WeighedHallModel", "comesTo", "(II)V"⟩ ∈ GT := gt_mem 1606 (by decide +kernel) rfl
theorem wg1488 : Cond.instanceMethod ⟨"WeighedHallModel", "comesTo", "(II)V"⟩ ∈ GT := gt_mem 1608 (by decide +kernel) rfl
theorem ws104 : Cond.selects "WeighedHallModel" ⟨"WeighedHallModel", "comesTo", "(II)V"⟩ ⟨"WeighedHallModel", "comesTo", "(II)V"⟩ ∈ GT := gt_mem 104 (by decide +kernel) rfl
theorem wg1493 : Cond.code ⟨"WeighedHallModel", "later", "(I)I"⟩ prog_13_method_34_code 2 (Option.some .int) ∈ GT := gt_mem 1613 (by decide +kernel) rfl
theorem wg1490 : Cond.methodLink "WeighedHallModel" 238 ⟨"WeighedHallModel", "later", "(I)I"⟩ ∈ GT := gt_mem 1610 (by decide +kernel) rfl
theorem wg1492 : Cond.instanceMethod ⟨"WeighedHallModel", "later", "(I)I"⟩ ∈ GT := gt_mem 1612 (by decide +kernel) rfl
theorem ws105 : Cond.selects "WeighedHallModel" ⟨"WeighedHallModel", "later", "(I)I"⟩ ⟨"WeighedHallModel", "later", "(I)I"⟩ ∈ GT := gt_mem 105 (by decide +kernel) rfl
theorem wg1220 : Cond.fieldLink "WeighedHallModel" 49 "WeighedHallModel" "lend" "[[I" ∈ GT := gt_mem 1340 (by decide +kernel) rfl
theorem wg1223 : Cond.fieldLink "WeighedHallModel" 199 "WeighedHallModel" "lends" "I" ∈ GT := gt_mem 1343 (by decide +kernel) rfl
theorem wg1497 : Cond.code ⟨"WeighedHallModel", "weighs", "()V"⟩ prog_13_method_38_code 2 (Option.none : Option FieldType) ∈ GT := gt_mem 1617 (by decide +kernel) rfl
theorem wg1494 : Cond.methodLink "WeighedHallModel" 241 ⟨"WeighedHallModel", "weighs", "()V"⟩ ∈ GT := gt_mem 1614 (by decide +kernel) rfl
theorem wg1496 : Cond.instanceMethod ⟨"WeighedHallModel", "weighs", "()V"⟩ ∈ GT := gt_mem 1616 (by decide +kernel) rfl
theorem ws106 : Cond.selects "WeighedHallModel" ⟨"WeighedHallModel", "weighs", "()V"⟩ ⟨"WeighedHallModel", "weighs", "()V"⟩ ∈ GT := gt_mem 106 (by decide +kernel) rfl
theorem wg1501 : Cond.code ⟨"WeighedHallModel", "drops", "(II)V"⟩ prog_13_method_39_code 4 (Option.none : Option FieldType) ∈ GT := gt_mem 1621 (by decide +kernel) rfl
theorem wg1498 : Cond.methodLink "WeighedHallModel" 244 ⟨"WeighedHallModel", "drops", "(II)V"⟩ ∈ GT := gt_mem 1618 (by decide +kernel) rfl
theorem wg1500 : Cond.instanceMethod ⟨"WeighedHallModel", "drops", "(II)V"⟩ ∈ GT := gt_mem 1620 (by decide +kernel) rfl
theorem ws107 : Cond.selects "WeighedHallModel" ⟨"WeighedHallModel", "drops", "(II)V"⟩ ⟨"WeighedHallModel", "drops", "(II)V"⟩ ∈ GT := gt_mem 107 (by decide +kernel) rfl
theorem wg1505 : Cond.code ⟨"WeighedHallModel", "countsOf", "(I)V"⟩ prog_13_method_41_code 6 (Option.none : Option FieldType) ∈ GT := gt_mem 1625 (by decide +kernel) rfl
theorem wg1502 : Cond.methodLink "WeighedHallModel" 247 ⟨"WeighedHallModel", "countsOf", "(I)V"⟩ ∈ GT := gt_mem 1622 (by decide +kernel) rfl
theorem wg1504 : Cond.instanceMethod ⟨"WeighedHallModel", "countsOf", "(I)V"⟩ ∈ GT := gt_mem 1624 (by decide +kernel) rfl
theorem ws108 : Cond.selects "WeighedHallModel" ⟨"WeighedHallModel", "countsOf", "(I)V"⟩ ⟨"WeighedHallModel", "countsOf", "(I)V"⟩ ∈ GT := gt_mem 108 (by decide +kernel) rfl
theorem d_X11_minuteGoes_0 : decode cX11_minuteGoes 0 = .ok (.iconst 0, 1) := by decide +kernel
theorem d_X11_minuteGoes_1 : decode cX11_minuteGoes 1 = .ok (.istore_n 2, 1) := by decide +kernel
theorem d_X11_minuteGoes_2 : decode cX11_minuteGoes 2 = .ok (.iload_n 2, 1) := by decide +kernel
theorem d_X11_minuteGoes_3 : decode cX11_minuteGoes 3 = .ok (.aload_n 0, 1) := by decide +kernel
theorem d_X11_minuteGoes_4 : decode cX11_minuteGoes 4 = .ok (.getfield 23, 3) := by decide +kernel
theorem d_X11_minuteGoes_7 : decode cX11_minuteGoes 7 = .ok (.iconst 1, 1) := by decide +kernel
theorem d_X11_minuteGoes_8 : decode cX11_minuteGoes 8 = .ok (.iaload, 1) := by decide +kernel
theorem d_X11_minuteGoes_9 : decode cX11_minuteGoes 9 = .ok (.if_icmp .ge 52, 3) := by decide +kernel
theorem d_X11_minuteGoes_12 : decode cX11_minuteGoes 12 = .ok (.iload_n 2, 1) := by decide +kernel
theorem d_X11_minuteGoes_13 : decode cX11_minuteGoes 13 = .ok (.aload_n 0, 1) := by decide +kernel
theorem d_X11_minuteGoes_14 : decode cX11_minuteGoes 14 = .ok (.getfield 87, 3) := by decide +kernel
theorem d_X11_minuteGoes_17 : decode cX11_minuteGoes 17 = .ok (.if_icmp .eq 38, 3) := by decide +kernel
theorem d_X11_minuteGoes_20 : decode cX11_minuteGoes 20 = .ok (.aload_n 0, 1) := by decide +kernel
theorem d_X11_minuteGoes_21 : decode cX11_minuteGoes 21 = .ok (.getfield 37, 3) := by decide +kernel
theorem d_X11_minuteGoes_24 : decode cX11_minuteGoes 24 = .ok (.iload_n 2, 1) := by decide +kernel
theorem d_X11_minuteGoes_25 : decode cX11_minuteGoes 25 = .ok (.aaload, 1) := by decide +kernel
theorem d_X11_minuteGoes_26 : decode cX11_minuteGoes 26 = .ok (.iconst 2, 1) := by decide +kernel
theorem d_X11_minuteGoes_27 : decode cX11_minuteGoes 27 = .ok (.iaload, 1) := by decide +kernel
theorem d_X11_minuteGoes_28 : decode cX11_minuteGoes 28 = .ok (.iconst (-1), 1) := by decide +kernel
theorem d_X11_minuteGoes_29 : decode cX11_minuteGoes 29 = .ok (.if_icmp .eq 26, 3) := by decide +kernel
theorem d_X11_minuteGoes_32 : decode cX11_minuteGoes 32 = .ok (.aload_n 0, 1) := by decide +kernel
theorem d_X11_minuteGoes_33 : decode cX11_minuteGoes 33 = .ok (.getfield 70, 3) := by decide +kernel
theorem d_X11_minuteGoes_36 : decode cX11_minuteGoes 36 = .ok (.iload_n 2, 1) := by decide +kernel
theorem d_X11_minuteGoes_37 : decode cX11_minuteGoes 37 = .ok (.iaload, 1) := by decide +kernel
theorem d_X11_minuteGoes_38 : decode cX11_minuteGoes 38 = .ok (.iload_n 1, 1) := by decide +kernel
theorem d_X11_minuteGoes_39 : decode cX11_minuteGoes 39 = .ok (.if_icmp .ne 16, 3) := by decide +kernel
theorem d_X11_minuteGoes_42 : decode cX11_minuteGoes 42 = .ok (.aload_n 0, 1) := by decide +kernel
theorem d_X11_minuteGoes_43 : decode cX11_minuteGoes 43 = .ok (.iload_n 2, 1) := by decide +kernel
theorem d_X11_minuteGoes_44 : decode cX11_minuteGoes 44 = .ok (.aload_n 0, 1) := by decide +kernel
theorem d_X11_minuteGoes_45 : decode cX11_minuteGoes 45 = .ok (.getfield 37, 3) := by decide +kernel
theorem d_X11_minuteGoes_48 : decode cX11_minuteGoes 48 = .ok (.iload_n 2, 1) := by decide +kernel
theorem d_X11_minuteGoes_49 : decode cX11_minuteGoes 49 = .ok (.aaload, 1) := by decide +kernel
theorem d_X11_minuteGoes_50 : decode cX11_minuteGoes 50 = .ok (.iconst 0, 1) := by decide +kernel
theorem d_X11_minuteGoes_51 : decode cX11_minuteGoes 51 = .ok (.iaload, 1) := by decide +kernel
theorem d_X11_minuteGoes_52 : decode cX11_minuteGoes 52 = .ok (.invokevirtual 235, 3) := by decide +kernel
theorem d_X11_minuteGoes_55 : decode cX11_minuteGoes 55 = .ok (.iinc 2 1, 3) := by decide +kernel
theorem d_X11_minuteGoes_58 : decode cX11_minuteGoes 58 = .ok (.goto (-56), 3) := by decide +kernel
theorem d_X11_minuteGoes_61 : decode cX11_minuteGoes 61 = .ok (.iconst 0, 1) := by decide +kernel
theorem d_X11_minuteGoes_62 : decode cX11_minuteGoes 62 = .ok (.istore_n 2, 1) := by decide +kernel
theorem d_X11_minuteGoes_63 : decode cX11_minuteGoes 63 = .ok (.iload_n 2, 1) := by decide +kernel
theorem d_X11_minuteGoes_64 : decode cX11_minuteGoes 64 = .ok (.aload_n 0, 1) := by decide +kernel
theorem d_X11_minuteGoes_65 : decode cX11_minuteGoes 65 = .ok (.getfield 23, 3) := by decide +kernel
theorem d_X11_minuteGoes_68 : decode cX11_minuteGoes 68 = .ok (.iconst 1, 1) := by decide +kernel
theorem d_X11_minuteGoes_69 : decode cX11_minuteGoes 69 = .ok (.iaload, 1) := by decide +kernel
theorem d_X11_minuteGoes_70 : decode cX11_minuteGoes 70 = .ok (.if_icmp .ge 53, 3) := by decide +kernel
theorem d_X11_minuteGoes_73 : decode cX11_minuteGoes 73 = .ok (.aload_n 0, 1) := by decide +kernel
theorem d_X11_minuteGoes_74 : decode cX11_minuteGoes 74 = .ok (.getfield 67, 3) := by decide +kernel
theorem d_X11_minuteGoes_77 : decode cX11_minuteGoes 77 = .ok (.iload_n 2, 1) := by decide +kernel
theorem d_X11_minuteGoes_78 : decode cX11_minuteGoes 78 = .ok (.iaload, 1) := by decide +kernel
theorem d_X11_minuteGoes_79 : decode cX11_minuteGoes 79 = .ok (.iconst (-1), 1) := by decide +kernel
theorem d_X11_minuteGoes_80 : decode cX11_minuteGoes 80 = .ok (.if_icmp .eq 37, 3) := by decide +kernel
theorem d_X11_minuteGoes_83 : decode cX11_minuteGoes 83 = .ok (.aload_n 0, 1) := by decide +kernel
theorem d_X11_minuteGoes_84 : decode cX11_minuteGoes 84 = .ok (.aload_n 0, 1) := by decide +kernel
theorem d_X11_minuteGoes_85 : decode cX11_minuteGoes 85 = .ok (.getfield 49, 3) := by decide +kernel
theorem d_X11_minuteGoes_88 : decode cX11_minuteGoes 88 = .ok (.aload_n 0, 1) := by decide +kernel
theorem d_X11_minuteGoes_89 : decode cX11_minuteGoes 89 = .ok (.getfield 67, 3) := by decide +kernel
theorem d_X11_minuteGoes_92 : decode cX11_minuteGoes 92 = .ok (.iload_n 2, 1) := by decide +kernel
theorem d_X11_minuteGoes_93 : decode cX11_minuteGoes 93 = .ok (.iaload, 1) := by decide +kernel
theorem d_X11_minuteGoes_94 : decode cX11_minuteGoes 94 = .ok (.aaload, 1) := by decide +kernel
theorem d_X11_minuteGoes_95 : decode cX11_minuteGoes 95 = .ok (.iconst 3, 1) := by decide +kernel
theorem d_X11_minuteGoes_96 : decode cX11_minuteGoes 96 = .ok (.iaload, 1) := by decide +kernel
theorem d_X11_minuteGoes_97 : decode cX11_minuteGoes 97 = .ok (.invokevirtual 238, 3) := by decide +kernel
theorem d_X11_minuteGoes_100 : decode cX11_minuteGoes 100 = .ok (.iload_n 1, 1) := by decide +kernel
theorem d_X11_minuteGoes_101 : decode cX11_minuteGoes 101 = .ok (.if_icmp .ne 16, 3) := by decide +kernel
theorem d_X11_minuteGoes_104 : decode cX11_minuteGoes 104 = .ok (.aload_n 0, 1) := by decide +kernel
theorem d_X11_minuteGoes_105 : decode cX11_minuteGoes 105 = .ok (.iload_n 2, 1) := by decide +kernel
theorem d_X11_minuteGoes_106 : decode cX11_minuteGoes 106 = .ok (.aload_n 0, 1) := by decide +kernel
theorem d_X11_minuteGoes_107 : decode cX11_minuteGoes 107 = .ok (.getfield 37, 3) := by decide +kernel
theorem d_X11_minuteGoes_110 : decode cX11_minuteGoes 110 = .ok (.iload_n 2, 1) := by decide +kernel
theorem d_X11_minuteGoes_111 : decode cX11_minuteGoes 111 = .ok (.aaload, 1) := by decide +kernel
theorem d_X11_minuteGoes_112 : decode cX11_minuteGoes 112 = .ok (.iconst 0, 1) := by decide +kernel
theorem d_X11_minuteGoes_113 : decode cX11_minuteGoes 113 = .ok (.iaload, 1) := by decide +kernel
theorem d_X11_minuteGoes_114 : decode cX11_minuteGoes 114 = .ok (.invokevirtual 235, 3) := by decide +kernel
theorem d_X11_minuteGoes_117 : decode cX11_minuteGoes 117 = .ok (.iinc 2 1, 3) := by decide +kernel
theorem d_X11_minuteGoes_120 : decode cX11_minuteGoes 120 = .ok (.goto (-57), 3) := by decide +kernel
theorem d_X11_minuteGoes_123 : decode cX11_minuteGoes 123 = .ok (.iconst 0, 1) := by decide +kernel
theorem d_X11_minuteGoes_124 : decode cX11_minuteGoes 124 = .ok (.istore_n 2, 1) := by decide +kernel
theorem d_X11_minuteGoes_125 : decode cX11_minuteGoes 125 = .ok (.iload_n 2, 1) := by decide +kernel
theorem d_X11_minuteGoes_126 : decode cX11_minuteGoes 126 = .ok (.aload_n 0, 1) := by decide +kernel
theorem d_X11_minuteGoes_127 : decode cX11_minuteGoes 127 = .ok (.getfield 199, 3) := by decide +kernel
theorem d_X11_minuteGoes_130 : decode cX11_minuteGoes 130 = .ok (.if_icmp .ge 98, 3) := by decide +kernel
theorem d_X11_minuteGoes_133 : decode cX11_minuteGoes 133 = .ok (.aload_n 0, 1) := by decide +kernel
theorem d_X11_minuteGoes_134 : decode cX11_minuteGoes 134 = .ok (.getfield 49, 3) := by decide +kernel
theorem d_X11_minuteGoes_137 : decode cX11_minuteGoes 137 = .ok (.iload_n 2, 1) := by decide +kernel
theorem d_X11_minuteGoes_138 : decode cX11_minuteGoes 138 = .ok (.aaload, 1) := by decide +kernel
theorem d_X11_minuteGoes_139 : decode cX11_minuteGoes 139 = .ok (.iconst 0, 1) := by decide +kernel
theorem d_X11_minuteGoes_140 : decode cX11_minuteGoes 140 = .ok (.iaload, 1) := by decide +kernel
theorem d_X11_minuteGoes_141 : decode cX11_minuteGoes 141 = .ok (.istore_n 3, 1) := by decide +kernel
theorem d_X11_minuteGoes_142 : decode cX11_minuteGoes 142 = .ok (.aload_n 0, 1) := by decide +kernel
theorem d_X11_minuteGoes_143 : decode cX11_minuteGoes 143 = .ok (.getfield 49, 3) := by decide +kernel
theorem d_X11_minuteGoes_146 : decode cX11_minuteGoes 146 = .ok (.iload_n 2, 1) := by decide +kernel
theorem d_X11_minuteGoes_147 : decode cX11_minuteGoes 147 = .ok (.aaload, 1) := by decide +kernel
theorem d_X11_minuteGoes_148 : decode cX11_minuteGoes 148 = .ok (.iconst 1, 1) := by decide +kernel
theorem d_X11_minuteGoes_149 : decode cX11_minuteGoes 149 = .ok (.iaload, 1) := by decide +kernel
theorem d_X11_minuteGoes_150 : decode cX11_minuteGoes 150 = .ok (.istore 4, 2) := by decide +kernel
theorem d_X11_minuteGoes_152 : decode cX11_minuteGoes 152 = .ok (.aload_n 0, 1) := by decide +kernel
theorem d_X11_minuteGoes_153 : decode cX11_minuteGoes 153 = .ok (.aload_n 0, 1) := by decide +kernel
theorem d_X11_minuteGoes_154 : decode cX11_minuteGoes 154 = .ok (.getfield 49, 3) := by decide +kernel
theorem d_X11_minuteGoes_157 : decode cX11_minuteGoes 157 = .ok (.iload_n 2, 1) := by decide +kernel
theorem d_X11_minuteGoes_158 : decode cX11_minuteGoes 158 = .ok (.aaload, 1) := by decide +kernel
theorem d_X11_minuteGoes_159 : decode cX11_minuteGoes 159 = .ok (.iconst 2, 1) := by decide +kernel
theorem d_X11_minuteGoes_160 : decode cX11_minuteGoes 160 = .ok (.iaload, 1) := by decide +kernel
theorem d_X11_minuteGoes_161 : decode cX11_minuteGoes 161 = .ok (.invokevirtual 238, 3) := by decide +kernel
theorem d_X11_minuteGoes_164 : decode cX11_minuteGoes 164 = .ok (.iload_n 1, 1) := by decide +kernel
theorem d_X11_minuteGoes_165 : decode cX11_minuteGoes 165 = .ok (.if_icmp .ne 57, 3) := by decide +kernel
theorem d_X11_minuteGoes_168 : decode cX11_minuteGoes 168 = .ok (.iload_n 3, 1) := by decide +kernel
theorem d_X11_minuteGoes_169 : decode cX11_minuteGoes 169 = .ok (.aload_n 0, 1) := by decide +kernel
theorem d_X11_minuteGoes_170 : decode cX11_minuteGoes 170 = .ok (.getfield 87, 3) := by decide +kernel
theorem d_X11_minuteGoes_173 : decode cX11_minuteGoes 173 = .ok (.if_icmp .eq 49, 3) := by decide +kernel
theorem d_X11_minuteGoes_176 : decode cX11_minuteGoes 176 = .ok (.aload_n 0, 1) := by decide +kernel
theorem d_X11_minuteGoes_177 : decode cX11_minuteGoes 177 = .ok (.getfield 64, 3) := by decide +kernel
theorem d_X11_minuteGoes_180 : decode cX11_minuteGoes 180 = .ok (.iload_n 3, 1) := by decide +kernel
theorem d_X11_minuteGoes_181 : decode cX11_minuteGoes 181 = .ok (.iaload, 1) := by decide +kernel
theorem d_X11_minuteGoes_182 : decode cX11_minuteGoes 182 = .ok (.aload_n 0, 1) := by decide +kernel
theorem d_X11_minuteGoes_183 : decode cX11_minuteGoes 183 = .ok (.getfield 37, 3) := by decide +kernel
theorem d_X11_minuteGoes_186 : decode cX11_minuteGoes 186 = .ok (.iload_n 3, 1) := by decide +kernel
theorem d_X11_minuteGoes_187 : decode cX11_minuteGoes 187 = .ok (.aaload, 1) := by decide +kernel
theorem d_X11_minuteGoes_188 : decode cX11_minuteGoes 188 = .ok (.iconst 0, 1) := by decide +kernel
theorem d_X11_minuteGoes_189 : decode cX11_minuteGoes 189 = .ok (.iaload, 1) := by decide +kernel
theorem d_X11_minuteGoes_190 : decode cX11_minuteGoes 190 = .ok (.if_icmp .ne 32, 3) := by decide +kernel
theorem d_X11_minuteGoes_193 : decode cX11_minuteGoes 193 = .ok (.aload_n 0, 1) := by decide +kernel
theorem d_X11_minuteGoes_194 : decode cX11_minuteGoes 194 = .ok (.getfield 76, 3) := by decide +kernel
theorem d_X11_minuteGoes_197 : decode cX11_minuteGoes 197 = .ok (.iload 4, 2) := by decide +kernel
theorem d_X11_minuteGoes_199 : decode cX11_minuteGoes 199 = .ok (.iaload, 1) := by decide +kernel
theorem d_X11_minuteGoes_200 : decode cX11_minuteGoes 200 = .ok (.iconst (-1), 1) := by decide +kernel
theorem d_X11_minuteGoes_201 : decode cX11_minuteGoes 201 = .ok (.if_icmp .eq 6, 3) := by decide +kernel
theorem d_X11_minuteGoes_204 : decode cX11_minuteGoes 204 = .ok (.goto 18, 3) := by decide +kernel
theorem d_X11_minuteGoes_207 : decode cX11_minuteGoes 207 = .ok (.aload_n 0, 1) := by decide +kernel
theorem d_X11_minuteGoes_208 : decode cX11_minuteGoes 208 = .ok (.getfield 64, 3) := by decide +kernel
theorem d_X11_minuteGoes_211 : decode cX11_minuteGoes 211 = .ok (.iload_n 3, 1) := by decide +kernel
theorem d_X11_minuteGoes_212 : decode cX11_minuteGoes 212 = .ok (.iload 4, 2) := by decide +kernel
theorem d_X11_minuteGoes_214 : decode cX11_minuteGoes 214 = .ok (.iastore, 1) := by decide +kernel
theorem d_X11_minuteGoes_215 : decode cX11_minuteGoes 215 = .ok (.aload_n 0, 1) := by decide +kernel
theorem d_X11_minuteGoes_216 : decode cX11_minuteGoes 216 = .ok (.getfield 67, 3) := by decide +kernel
theorem d_X11_minuteGoes_219 : decode cX11_minuteGoes 219 = .ok (.iload_n 3, 1) := by decide +kernel
theorem d_X11_minuteGoes_220 : decode cX11_minuteGoes 220 = .ok (.iload_n 2, 1) := by decide +kernel
theorem d_X11_minuteGoes_221 : decode cX11_minuteGoes 221 = .ok (.iastore, 1) := by decide +kernel
theorem d_X11_minuteGoes_222 : decode cX11_minuteGoes 222 = .ok (.iinc 2 1, 3) := by decide +kernel
theorem d_X11_minuteGoes_225 : decode cX11_minuteGoes 225 = .ok (.goto (-100), 3) := by decide +kernel
theorem d_X11_minuteGoes_228 : decode cX11_minuteGoes 228 = .ok (.aload_n 0, 1) := by decide +kernel
theorem d_X11_minuteGoes_229 : decode cX11_minuteGoes 229 = .ok (.invokevirtual 241, 3) := by decide +kernel
theorem d_X11_minuteGoes_232 : decode cX11_minuteGoes 232 = .ok (.iconst 0, 1) := by decide +kernel
theorem d_X11_minuteGoes_233 : decode cX11_minuteGoes 233 = .ok (.istore_n 2, 1) := by decide +kernel
theorem d_X11_minuteGoes_234 : decode cX11_minuteGoes 234 = .ok (.iload_n 2, 1) := by decide +kernel
theorem d_X11_minuteGoes_235 : decode cX11_minuteGoes 235 = .ok (.aload_n 0, 1) := by decide +kernel
theorem d_X11_minuteGoes_236 : decode cX11_minuteGoes 236 = .ok (.getfield 23, 3) := by decide +kernel
theorem d_X11_minuteGoes_239 : decode cX11_minuteGoes 239 = .ok (.iconst 0, 1) := by decide +kernel
theorem d_X11_minuteGoes_240 : decode cX11_minuteGoes 240 = .ok (.iaload, 1) := by decide +kernel
theorem d_X11_minuteGoes_241 : decode cX11_minuteGoes 241 = .ok (.if_icmp .ge 52, 3) := by decide +kernel
theorem d_X11_minuteGoes_244 : decode cX11_minuteGoes 244 = .ok (.aload_n 0, 1) := by decide +kernel
theorem d_X11_minuteGoes_245 : decode cX11_minuteGoes 245 = .ok (.getfield 76, 3) := by decide +kernel
theorem d_X11_minuteGoes_248 : decode cX11_minuteGoes 248 = .ok (.iload_n 2, 1) := by decide +kernel
theorem d_X11_minuteGoes_249 : decode cX11_minuteGoes 249 = .ok (.iaload, 1) := by decide +kernel
theorem d_X11_minuteGoes_250 : decode cX11_minuteGoes 250 = .ok (.iconst (-1), 1) := by decide +kernel
theorem d_X11_minuteGoes_251 : decode cX11_minuteGoes 251 = .ok (.if_icmp .eq 6, 3) := by decide +kernel
theorem d_X11_minuteGoes_254 : decode cX11_minuteGoes 254 = .ok (.goto 33, 3) := by decide +kernel
theorem d_X11_minuteGoes_257 : decode cX11_minuteGoes 257 = .ok (.aload_n 0, 1) := by decide +kernel
theorem d_X11_minuteGoes_258 : decode cX11_minuteGoes 258 = .ok (.getfield 73, 3) := by decide +kernel
theorem d_X11_minuteGoes_261 : decode cX11_minuteGoes 261 = .ok (.iload_n 2, 1) := by decide +kernel
theorem d_X11_minuteGoes_262 : decode cX11_minuteGoes 262 = .ok (.dup2, 1) := by decide +kernel
theorem d_X11_minuteGoes_263 : decode cX11_minuteGoes 263 = .ok (.iaload, 1) := by decide +kernel
theorem d_X11_minuteGoes_264 : decode cX11_minuteGoes 264 = .ok (.aload_n 0, 1) := by decide +kernel
theorem d_X11_minuteGoes_265 : decode cX11_minuteGoes 265 = .ok (.getfield 79, 3) := by decide +kernel
theorem d_X11_minuteGoes_268 : decode cX11_minuteGoes 268 = .ok (.iload_n 2, 1) := by decide +kernel
theorem d_X11_minuteGoes_269 : decode cX11_minuteGoes 269 = .ok (.iaload, 1) := by decide +kernel
theorem d_X11_minuteGoes_270 : decode cX11_minuteGoes 270 = .ok (.isub, 1) := by decide +kernel
theorem d_X11_minuteGoes_271 : decode cX11_minuteGoes 271 = .ok (.iastore, 1) := by decide +kernel
theorem d_X11_minuteGoes_272 : decode cX11_minuteGoes 272 = .ok (.aload_n 0, 1) := by decide +kernel
theorem d_X11_minuteGoes_273 : decode cX11_minuteGoes 273 = .ok (.getfield 73, 3) := by decide +kernel
theorem d_X11_minuteGoes_276 : decode cX11_minuteGoes 276 = .ok (.iload_n 2, 1) := by decide +kernel
theorem d_X11_minuteGoes_277 : decode cX11_minuteGoes 277 = .ok (.iaload, 1) := by decide +kernel
theorem d_X11_minuteGoes_278 : decode cX11_minuteGoes 278 = .ok (.ifCond .ge 9, 3) := by decide +kernel
theorem d_X11_minuteGoes_281 : decode cX11_minuteGoes 281 = .ok (.aload_n 0, 1) := by decide +kernel
theorem d_X11_minuteGoes_282 : decode cX11_minuteGoes 282 = .ok (.iload_n 2, 1) := by decide +kernel
theorem d_X11_minuteGoes_283 : decode cX11_minuteGoes 283 = .ok (.iload_n 1, 1) := by decide +kernel
theorem d_X11_minuteGoes_284 : decode cX11_minuteGoes 284 = .ok (.invokevirtual 244, 3) := by decide +kernel
theorem d_X11_minuteGoes_287 : decode cX11_minuteGoes 287 = .ok (.iinc 2 1, 3) := by decide +kernel
theorem d_X11_minuteGoes_290 : decode cX11_minuteGoes 290 = .ok (.goto (-56), 3) := by decide +kernel
theorem d_X11_minuteGoes_293 : decode cX11_minuteGoes 293 = .ok (.aload_n 0, 1) := by decide +kernel
theorem d_X11_minuteGoes_294 : decode cX11_minuteGoes 294 = .ok (.invokevirtual 241, 3) := by decide +kernel
theorem d_X11_minuteGoes_297 : decode cX11_minuteGoes 297 = .ok (.iconst 0, 1) := by decide +kernel
theorem d_X11_minuteGoes_298 : decode cX11_minuteGoes 298 = .ok (.istore_n 2, 1) := by decide +kernel
theorem d_X11_minuteGoes_299 : decode cX11_minuteGoes 299 = .ok (.iload_n 2, 1) := by decide +kernel
theorem d_X11_minuteGoes_300 : decode cX11_minuteGoes 300 = .ok (.aload_n 0, 1) := by decide +kernel
theorem d_X11_minuteGoes_301 : decode cX11_minuteGoes 301 = .ok (.getfield 23, 3) := by decide +kernel
theorem d_X11_minuteGoes_304 : decode cX11_minuteGoes 304 = .ok (.iconst 3, 1) := by decide +kernel
theorem d_X11_minuteGoes_305 : decode cX11_minuteGoes 305 = .ok (.iaload, 1) := by decide +kernel
theorem d_X11_minuteGoes_306 : decode cX11_minuteGoes 306 = .ok (.if_icmp .ge 30, 3) := by decide +kernel
theorem d_X11_minuteGoes_309 : decode cX11_minuteGoes 309 = .ok (.aload_n 0, 1) := by decide +kernel
theorem d_X11_minuteGoes_310 : decode cX11_minuteGoes 310 = .ok (.aload_n 0, 1) := by decide +kernel
theorem d_X11_minuteGoes_311 : decode cX11_minuteGoes 311 = .ok (.getfield 43, 3) := by decide +kernel
theorem d_X11_minuteGoes_314 : decode cX11_minuteGoes 314 = .ok (.iload_n 2, 1) := by decide +kernel
theorem d_X11_minuteGoes_315 : decode cX11_minuteGoes 315 = .ok (.aaload, 1) := by decide +kernel
theorem d_X11_minuteGoes_316 : decode cX11_minuteGoes 316 = .ok (.iconst 0, 1) := by decide +kernel
theorem d_X11_minuteGoes_317 : decode cX11_minuteGoes 317 = .ok (.iaload, 1) := by decide +kernel
theorem d_X11_minuteGoes_318 : decode cX11_minuteGoes 318 = .ok (.invokevirtual 238, 3) := by decide +kernel
theorem d_X11_minuteGoes_321 : decode cX11_minuteGoes 321 = .ok (.iload_n 1, 1) := by decide +kernel
theorem d_X11_minuteGoes_322 : decode cX11_minuteGoes 322 = .ok (.if_icmp .ne 8, 3) := by decide +kernel
theorem d_X11_minuteGoes_325 : decode cX11_minuteGoes 325 = .ok (.aload_n 0, 1) := by decide +kernel
theorem d_X11_minuteGoes_326 : decode cX11_minuteGoes 326 = .ok (.iload_n 2, 1) := by decide +kernel
theorem d_X11_minuteGoes_327 : decode cX11_minuteGoes 327 = .ok (.invokevirtual 247, 3) := by decide +kernel
theorem d_X11_minuteGoes_330 : decode cX11_minuteGoes 330 = .ok (.iinc 2 1, 3) := by decide +kernel
theorem d_X11_minuteGoes_333 : decode cX11_minuteGoes 333 = .ok (.goto (-34), 3) := by decide +kernel
theorem d_X11_minuteGoes_336 : decode cX11_minuteGoes 336 = .ok (.return_, 1) := by decide +kernel
set_option maxRecDepth 100000 in
theorem L_X11_minuteGoes {p : Program} {l : Launch} {e : Env} {s : State} {m : MethodId} {args : Array Value} {below : List Frame} {meth : Method} {c : Code} {D : va_G} {ca : Nat → ClassId} {ad sx sy : Nat → Nat} {A : Nat → Prop} {Q : QT} (C0 : CX p s m args meth c cX11_minuteGoes 5 yX11_minuteGoes.cls D ca ad A) (hE : EX sx sy A s s.heap) (hr : meth.sig.returnType = none) (hno : ∀ x ∈ c.exceptionTable.toList, False) : R_X11_minuteGoes (JW p l e { frames := 12, cells := 0, slots := 6 * 0, locals := 246 } s m args below meth c 5 D ca ad A (vx_MQ below (Qn D ca ad A Q) (Qx D ca ad A Q) args s 0 (6 * 0) A) gz gz true) Q := ⟨s_ic C0 (d_X11_minuteGoes_0) hgz (s_isn C0 (d_X11_minuteGoes_1) hgz (fun _ _ _ h => h)) (okn rfl),
  s_iln C0 (d_X11_minuteGoes_2) hgz (s_aln C0 (d_X11_minuteGoes_3) hgz (s_gr C0 (j := 11) (c0 := 11) rfl gX11 (by decide) rfl rfl wg1212 (d_X11_minuteGoes_4) hgz (s_ic C0 (d_X11_minuteGoes_7) hgz (s_ia C0 (d_X11_minuteGoes_8) hgz (s_cge C0 (d_X11_minuteGoes_9) (by decide) hgz hgz (fun _ _ _ h => h) (s_iln C0 (d_X11_minuteGoes_12) hgz (s_aln C0 (d_X11_minuteGoes_13) hgz (s_gi C0 (j := 35) (c0 := 11) rfl gX11 (by decide) rfl (by decide) wg1236 (d_X11_minuteGoes_14) hgz (s_ceq C0 (d_X11_minuteGoes_17) (by decide) hgz hgz (fun _ _ _ h => h) (s_aln C0 (d_X11_minuteGoes_20) hgz (s_gr C0 (j := 15) (c0 := 11) rfl gX11 (by decide) rfl rfl wg1216 (d_X11_minuteGoes_21) hgz (s_iln C0 (d_X11_minuteGoes_24) hgz (s_aa C0 (by decide) (by decide) rfl rfl (d_X11_minuteGoes_25) hgz (s_ic C0 (d_X11_minuteGoes_26) hgz (s_ia C0 (d_X11_minuteGoes_27) hgz (s_ic C0 (d_X11_minuteGoes_28) hgz (s_ceq C0 (d_X11_minuteGoes_29) (by decide) hgz hgz (fun _ _ _ h => h) (s_aln C0 (d_X11_minuteGoes_32) hgz (s_gr C0 (j := 30) (c0 := 11) rfl gX11 (by decide) rfl rfl wg1231 (d_X11_minuteGoes_33) hgz (s_iln C0 (d_X11_minuteGoes_36) hgz (s_ia C0 (d_X11_minuteGoes_37) hgz (s_iln C0 (d_X11_minuteGoes_38) hgz (s_cne C0 (d_X11_minuteGoes_39) (by decide) hgz hgz (fun _ _ _ h => h) (s_aln C0 (d_X11_minuteGoes_42) hgz (s_iln C0 (d_X11_minuteGoes_43) hgz (s_aln C0 (d_X11_minuteGoes_44) hgz (s_gr C0 (j := 15) (c0 := 11) rfl gX11 (by decide) rfl rfl wg1216 (d_X11_minuteGoes_45) hgz (s_iln C0 (d_X11_minuteGoes_48) hgz (s_aa C0 (by decide) (by decide) rfl rfl (d_X11_minuteGoes_49) hgz (s_ic C0 (d_X11_minuteGoes_50) hgz (s_ia C0 (d_X11_minuteGoes_51) hgz (s_callV C0 hE (c_X11_comesTo l) wg1489 wg1486 wg1488 ws104 wg12 ⟨by decide, by decide⟩ (by decide +kernel) (c0 := 11) rfl ⟨by decide, by decide⟩ ⟨by decide, by decide⟩ (d_X11_minuteGoes_52) (fun x hx => (hno x hx).elim) ⟨by decide, by decide⟩ ⟨by decide, by decide⟩ (fun _ _ _ h => h))) (okn rfl))))))))))))))) (okn rfl))) (okn rfl)))))))))))) (okn rfl)))),
  s_inc C0 (d_X11_minuteGoes_55) hgz (s_goto C0 (tgt := 2) (d_X11_minuteGoes_58) (by decide) hgz (fun _ _ _ h => h)),
  s_ic C0 (d_X11_minuteGoes_61) hgz (s_isn C0 (d_X11_minuteGoes_62) hgz (fun _ _ _ h => h)) (okn rfl),
  s_iln C0 (d_X11_minuteGoes_63) hgz (s_aln C0 (d_X11_minuteGoes_64) hgz (s_gr C0 (j := 11) (c0 := 11) rfl gX11 (by decide) rfl rfl wg1212 (d_X11_minuteGoes_65) hgz (s_ic C0 (d_X11_minuteGoes_68) hgz (s_ia C0 (d_X11_minuteGoes_69) hgz (s_cge C0 (d_X11_minuteGoes_70) (by decide) hgz hgz (fun _ _ _ h => h) (s_aln C0 (d_X11_minuteGoes_73) hgz (s_gr C0 (j := 29) (c0 := 11) rfl gX11 (by decide) rfl rfl wg1230 (d_X11_minuteGoes_74) hgz (s_iln C0 (d_X11_minuteGoes_77) hgz (s_ia C0 (d_X11_minuteGoes_78) hgz (s_ic C0 (d_X11_minuteGoes_79) hgz (s_ceq C0 (d_X11_minuteGoes_80) (by decide) hgz hgz (fun _ _ _ h => h) (s_aln C0 (d_X11_minuteGoes_83) hgz (s_aln C0 (d_X11_minuteGoes_84) hgz (s_gr C0 (j := 19) (c0 := 11) rfl gX11 (by decide) rfl rfl wg1220 (d_X11_minuteGoes_85) hgz (s_aln C0 (d_X11_minuteGoes_88) hgz (s_gr C0 (j := 29) (c0 := 11) rfl gX11 (by decide) rfl rfl wg1230 (d_X11_minuteGoes_89) hgz (s_iln C0 (d_X11_minuteGoes_92) hgz (s_ia C0 (d_X11_minuteGoes_93) hgz (s_aa C0 (by decide) (by decide) rfl rfl (d_X11_minuteGoes_94) hgz (s_ic C0 (d_X11_minuteGoes_95) hgz (s_ia C0 (d_X11_minuteGoes_96) hgz (s_callV C0 hE (c_X11_later l) wg1493 wg1490 wg1492 ws105 wg12 ⟨by decide, by decide⟩ (by decide +kernel) (c0 := 11) rfl ⟨by decide, by decide⟩ ⟨by decide, by decide⟩ (d_X11_minuteGoes_97) (fun x hx => (hno x hx).elim) ⟨by decide, by decide⟩ ⟨by decide, by decide⟩ (s_iln C0 (d_X11_minuteGoes_100) hgz (s_cne C0 (d_X11_minuteGoes_101) (by decide) hgz hgz (fun _ _ _ h => h) (s_aln C0 (d_X11_minuteGoes_104) hgz (s_iln C0 (d_X11_minuteGoes_105) hgz (s_aln C0 (d_X11_minuteGoes_106) hgz (s_gr C0 (j := 15) (c0 := 11) rfl gX11 (by decide) rfl rfl wg1216 (d_X11_minuteGoes_107) hgz (s_iln C0 (d_X11_minuteGoes_110) hgz (s_aa C0 (by decide) (by decide) rfl rfl (d_X11_minuteGoes_111) hgz (s_ic C0 (d_X11_minuteGoes_112) hgz (s_ia C0 (d_X11_minuteGoes_113) hgz (s_callV C0 hE (c_X11_comesTo l) wg1489 wg1486 wg1488 ws104 wg12 ⟨by decide, by decide⟩ (by decide +kernel) (c0 := 11) rfl ⟨by decide, by decide⟩ ⟨by decide, by decide⟩ (d_X11_minuteGoes_114) (fun x hx => (hno x hx).elim) ⟨by decide, by decide⟩ ⟨by decide, by decide⟩ (fun _ _ _ h => h))) (okn rfl)))))))))))) (okn rfl))))))))))) (okn rfl)))))))) (okn rfl)))),
  s_inc C0 (d_X11_minuteGoes_117) hgz (s_goto C0 (tgt := 63) (d_X11_minuteGoes_120) (by decide) hgz (fun _ _ _ h => h)),
  s_ic C0 (d_X11_minuteGoes_123) hgz (s_isn C0 (d_X11_minuteGoes_124) hgz (fun _ _ _ h => h)) (okn rfl),
  s_iln C0 (d_X11_minuteGoes_125) hgz (s_aln C0 (d_X11_minuteGoes_126) hgz (s_gi C0 (j := 22) (c0 := 11) rfl gX11 (by decide) rfl (by decide) wg1223 (d_X11_minuteGoes_127) hgz (s_cge C0 (d_X11_minuteGoes_130) (by decide) hgz hgz (fun _ _ _ h => h) (s_aln C0 (d_X11_minuteGoes_133) hgz (s_gr C0 (j := 19) (c0 := 11) rfl gX11 (by decide) rfl rfl wg1220 (d_X11_minuteGoes_134) hgz (s_iln C0 (d_X11_minuteGoes_137) hgz (s_aa C0 (by decide) (by decide) rfl rfl (d_X11_minuteGoes_138) hgz (s_ic C0 (d_X11_minuteGoes_139) hgz (s_ia C0 (d_X11_minuteGoes_140) hgz (s_isn C0 (d_X11_minuteGoes_141) hgz (s_aln C0 (d_X11_minuteGoes_142) hgz (s_gr C0 (j := 19) (c0 := 11) rfl gX11 (by decide) rfl rfl wg1220 (d_X11_minuteGoes_143) hgz (s_iln C0 (d_X11_minuteGoes_146) hgz (s_aa C0 (by decide) (by decide) rfl rfl (d_X11_minuteGoes_147) hgz (s_ic C0 (d_X11_minuteGoes_148) hgz (s_ia C0 (d_X11_minuteGoes_149) hgz (s_is C0 (d_X11_minuteGoes_150) hgz (s_aln C0 (d_X11_minuteGoes_152) hgz (s_aln C0 (d_X11_minuteGoes_153) hgz (s_gr C0 (j := 19) (c0 := 11) rfl gX11 (by decide) rfl rfl wg1220 (d_X11_minuteGoes_154) hgz (s_iln C0 (d_X11_minuteGoes_157) hgz (s_aa C0 (by decide) (by decide) rfl rfl (d_X11_minuteGoes_158) hgz (s_ic C0 (d_X11_minuteGoes_159) hgz (s_ia C0 (d_X11_minuteGoes_160) hgz (s_callV C0 hE (c_X11_later l) wg1493 wg1490 wg1492 ws105 wg12 ⟨by decide, by decide⟩ (by decide +kernel) (c0 := 11) rfl ⟨by decide, by decide⟩ ⟨by decide, by decide⟩ (d_X11_minuteGoes_161) (fun x hx => (hno x hx).elim) ⟨by decide, by decide⟩ ⟨by decide, by decide⟩ (s_iln C0 (d_X11_minuteGoes_164) hgz (s_cne C0 (d_X11_minuteGoes_165) (by decide) hgz hgz (fun _ _ _ h => h) (s_iln C0 (d_X11_minuteGoes_168) hgz (s_aln C0 (d_X11_minuteGoes_169) hgz (s_gi C0 (j := 35) (c0 := 11) rfl gX11 (by decide) rfl (by decide) wg1236 (d_X11_minuteGoes_170) hgz (s_ceq C0 (d_X11_minuteGoes_173) (by decide) hgz hgz (fun _ _ _ h => h) (s_aln C0 (d_X11_minuteGoes_176) hgz (s_gr C0 (j := 28) (c0 := 11) rfl gX11 (by decide) rfl rfl wg1229 (d_X11_minuteGoes_177) hgz (s_iln C0 (d_X11_minuteGoes_180) hgz (s_ia C0 (d_X11_minuteGoes_181) hgz (s_aln C0 (d_X11_minuteGoes_182) hgz (s_gr C0 (j := 15) (c0 := 11) rfl gX11 (by decide) rfl rfl wg1216 (d_X11_minuteGoes_183) hgz (s_iln C0 (d_X11_minuteGoes_186) hgz (s_aa C0 (by decide) (by decide) rfl rfl (d_X11_minuteGoes_187) hgz (s_ic C0 (d_X11_minuteGoes_188) hgz (s_ia C0 (d_X11_minuteGoes_189) hgz (s_cne C0 (d_X11_minuteGoes_190) (by decide) hgz hgz (fun _ _ _ h => h) (s_aln C0 (d_X11_minuteGoes_193) hgz (s_gr C0 (j := 32) (c0 := 11) rfl gX11 (by decide) rfl rfl wg1233 (d_X11_minuteGoes_194) hgz (s_il C0 (d_X11_minuteGoes_197) hgz (s_ia C0 (d_X11_minuteGoes_199) hgz (s_ic C0 (d_X11_minuteGoes_200) hgz (s_ceq C0 (d_X11_minuteGoes_201) (by decide) hgz hgz (fun _ _ _ h => h) (s_goto C0 (tgt := 222) (d_X11_minuteGoes_204) (by decide) hgz (fun _ _ _ h => h))) (okn rfl)))))))) (okn rfl)))))))))))))))))) (okn rfl))))))))) (okn rfl)))))))) (okn rfl))))))))),
  s_aln C0 (d_X11_minuteGoes_207) hgz (s_gr C0 (j := 28) (c0 := 11) rfl gX11 (by decide) rfl rfl wg1229 (d_X11_minuteGoes_208) hgz (s_iln C0 (d_X11_minuteGoes_211) hgz (s_il C0 (d_X11_minuteGoes_212) hgz (s_iax C0 (d_X11_minuteGoes_214) hgz (s_aln C0 (d_X11_minuteGoes_215) hgz (s_gr C0 (j := 29) (c0 := 11) rfl gX11 (by decide) rfl rfl wg1230 (d_X11_minuteGoes_216) hgz (s_iln C0 (d_X11_minuteGoes_219) hgz (s_iln C0 (d_X11_minuteGoes_220) hgz (s_iax C0 (d_X11_minuteGoes_221) hgz (fun _ _ _ h => h)))))))))),
  s_inc C0 (d_X11_minuteGoes_222) hgz (s_goto C0 (tgt := 125) (d_X11_minuteGoes_225) (by decide) hgz (fun _ _ _ h => h)),
  s_aln C0 (d_X11_minuteGoes_228) hgz (s_callV C0 hE (c_X11_weighs l) wg1497 wg1494 wg1496 ws106 wg12 ⟨by decide, by decide⟩ (by decide +kernel) (c0 := 11) rfl ⟨by decide, by decide⟩ ⟨by decide, by decide⟩ (d_X11_minuteGoes_229) (fun x hx => (hno x hx).elim) ⟨by decide, by decide⟩ ⟨by decide, by decide⟩ (s_ic C0 (d_X11_minuteGoes_232) hgz (s_isn C0 (d_X11_minuteGoes_233) hgz (fun _ _ _ h => h)) (okn rfl))),
  s_iln C0 (d_X11_minuteGoes_234) hgz (s_aln C0 (d_X11_minuteGoes_235) hgz (s_gr C0 (j := 11) (c0 := 11) rfl gX11 (by decide) rfl rfl wg1212 (d_X11_minuteGoes_236) hgz (s_ic C0 (d_X11_minuteGoes_239) hgz (s_ia C0 (d_X11_minuteGoes_240) hgz (s_cge C0 (d_X11_minuteGoes_241) (by decide) hgz hgz (fun _ _ _ h => h) (s_aln C0 (d_X11_minuteGoes_244) hgz (s_gr C0 (j := 32) (c0 := 11) rfl gX11 (by decide) rfl rfl wg1233 (d_X11_minuteGoes_245) hgz (s_iln C0 (d_X11_minuteGoes_248) hgz (s_ia C0 (d_X11_minuteGoes_249) hgz (s_ic C0 (d_X11_minuteGoes_250) hgz (s_ceq C0 (d_X11_minuteGoes_251) (by decide) hgz hgz (fun _ _ _ h => h) (s_goto C0 (tgt := 287) (d_X11_minuteGoes_254) (by decide) hgz (fun _ _ _ h => h))) (okn rfl)))))))) (okn rfl)))),
  s_aln C0 (d_X11_minuteGoes_257) hgz (s_gr C0 (j := 31) (c0 := 11) rfl gX11 (by decide) rfl rfl wg1232 (d_X11_minuteGoes_258) hgz (s_iln C0 (d_X11_minuteGoes_261) hgz (s_dup2 C0 (d_X11_minuteGoes_262) hgz (s_ia C0 (d_X11_minuteGoes_263) hgz (s_aln C0 (d_X11_minuteGoes_264) hgz (s_gr C0 (j := 33) (c0 := 11) rfl gX11 (by decide) rfl rfl wg1234 (d_X11_minuteGoes_265) hgz (s_iln C0 (d_X11_minuteGoes_268) hgz (s_ia C0 (d_X11_minuteGoes_269) hgz (s_sub C0 (d_X11_minuteGoes_270) hgz (s_iax C0 (d_X11_minuteGoes_271) hgz (s_aln C0 (d_X11_minuteGoes_272) hgz (s_gr C0 (j := 31) (c0 := 11) rfl gX11 (by decide) rfl rfl wg1232 (d_X11_minuteGoes_273) hgz (s_iln C0 (d_X11_minuteGoes_276) hgz (s_ia C0 (d_X11_minuteGoes_277) hgz (s_zge C0 (d_X11_minuteGoes_278) (by decide) hgz hgz (fun _ _ _ h => h) (s_aln C0 (d_X11_minuteGoes_281) hgz (s_iln C0 (d_X11_minuteGoes_282) hgz (s_iln C0 (d_X11_minuteGoes_283) hgz (s_callV C0 hE (c_X11_drops l) wg1501 wg1498 wg1500 ws107 wg12 ⟨by decide, by decide⟩ (by decide +kernel) (c0 := 11) rfl ⟨by decide, by decide⟩ ⟨by decide, by decide⟩ (d_X11_minuteGoes_284) (fun x hx => (hno x hx).elim) ⟨by decide, by decide⟩ ⟨by decide, by decide⟩ (fun _ _ _ h => h)))))))))))))))))))),
  s_inc C0 (d_X11_minuteGoes_287) hgz (s_goto C0 (tgt := 234) (d_X11_minuteGoes_290) (by decide) hgz (fun _ _ _ h => h)),
  s_aln C0 (d_X11_minuteGoes_293) hgz (s_callV C0 hE (c_X11_weighs l) wg1497 wg1494 wg1496 ws106 wg12 ⟨by decide, by decide⟩ (by decide +kernel) (c0 := 11) rfl ⟨by decide, by decide⟩ ⟨by decide, by decide⟩ (d_X11_minuteGoes_294) (fun x hx => (hno x hx).elim) ⟨by decide, by decide⟩ ⟨by decide, by decide⟩ (s_ic C0 (d_X11_minuteGoes_297) hgz (s_isn C0 (d_X11_minuteGoes_298) hgz (fun _ _ _ h => h)) (okn rfl))),
  s_iln C0 (d_X11_minuteGoes_299) hgz (s_aln C0 (d_X11_minuteGoes_300) hgz (s_gr C0 (j := 11) (c0 := 11) rfl gX11 (by decide) rfl rfl wg1212 (d_X11_minuteGoes_301) hgz (s_ic C0 (d_X11_minuteGoes_304) hgz (s_ia C0 (d_X11_minuteGoes_305) hgz (s_cge C0 (d_X11_minuteGoes_306) (by decide) hgz hgz (fun _ _ _ h => h) (s_aln C0 (d_X11_minuteGoes_309) hgz (s_aln C0 (d_X11_minuteGoes_310) hgz (s_gr C0 (j := 17) (c0 := 11) rfl gX11 (by decide) rfl rfl wg1218 (d_X11_minuteGoes_311) hgz (s_iln C0 (d_X11_minuteGoes_314) hgz (s_aa C0 (by decide) (by decide) rfl rfl (d_X11_minuteGoes_315) hgz (s_ic C0 (d_X11_minuteGoes_316) hgz (s_ia C0 (d_X11_minuteGoes_317) hgz (s_callV C0 hE (c_X11_later l) wg1493 wg1490 wg1492 ws105 wg12 ⟨by decide, by decide⟩ (by decide +kernel) (c0 := 11) rfl ⟨by decide, by decide⟩ ⟨by decide, by decide⟩ (d_X11_minuteGoes_318) (fun x hx => (hno x hx).elim) ⟨by decide, by decide⟩ ⟨by decide, by decide⟩ (s_iln C0 (d_X11_minuteGoes_321) hgz (s_cne C0 (d_X11_minuteGoes_322) (by decide) hgz hgz (fun _ _ _ h => h) (s_aln C0 (d_X11_minuteGoes_325) hgz (s_iln C0 (d_X11_minuteGoes_326) hgz (s_callV C0 hE (c_X11_countsOf l) wg1505 wg1502 wg1504 ws108 wg12 ⟨by decide, by decide⟩ (by decide +kernel) (c0 := 11) rfl ⟨by decide, by decide⟩ ⟨by decide, by decide⟩ (d_X11_minuteGoes_327) (fun x hx => (hno x hx).elim) ⟨by decide, by decide⟩ ⟨by decide, by decide⟩ (fun _ _ _ h => h)))))))) (okn rfl))))))))) (okn rfl)))),
  s_inc C0 (d_X11_minuteGoes_330) hgz (s_goto C0 (tgt := 299) (d_X11_minuteGoes_333) (by decide) hgz (fun _ _ _ h => h)),
  s_rv C0 hr (d_X11_minuteGoes_336) ⟨by decide, by decide⟩⟩
theorem c_X11_minuteGoes (l : Launch) : Ctr l yX11_minuteGoes cX11_minuteGoes 5 none 12 246 0 (fun sx => (nf G_X11_minuteGoes)) := ctr_of (by decide) gz gz ⟨rfl, rfl⟩ (fun p e s m args below meth c D ca ad sx sy A Q as M C0 hE hr hno hF => P_X11_minuteGoes (L_X11_minuteGoes C0 hE hr hno) hF)
theorem wg1481 : Cond.code ⟨"WeighedHallModel", "begins", "()V"⟩ prog_13_method_35_code 2 (Option.none : Option FieldType) ∈ GT := gt_mem 1601 (by decide +kernel) rfl
theorem wg1478 : Cond.methodLink "WeighedHallModel" 253 ⟨"WeighedHallModel", "begins", "()V"⟩ ∈ GT := gt_mem 1598 (by decide +kernel) rfl
theorem wg1480 : Cond.instanceMethod ⟨"WeighedHallModel", "begins", "()V"⟩ ∈ GT := gt_mem 1600 (by decide +kernel) rfl
theorem ws102 : Cond.selects "WeighedHallModel" ⟨"WeighedHallModel", "begins", "()V"⟩ ⟨"WeighedHallModel", "begins", "()V"⟩ ∈ GT := gt_mem 102 (by decide +kernel) rfl
theorem wg1485 : Cond.code ⟨"WeighedHallModel", "minuteGoes", "(I)V"⟩ prog_13_method_37_code 5 (Option.none : Option FieldType) ∈ GT := gt_mem 1605 (by decide +kernel) rfl
theorem wg1482 : Cond.methodLink "WeighedHallModel" 256 ⟨"WeighedHallModel", "minuteGoes", "(I)V"⟩ ∈ GT := gt_mem 1602 (by decide +kernel) rfl
theorem wg1484 : Cond.instanceMethod ⟨"WeighedHallModel", "minuteGoes", "(I)V"⟩ ∈ GT := gt_mem 1604 (by decide +kernel) rfl
theorem ws103 : Cond.selects "WeighedHallModel" ⟨"WeighedHallModel", "minuteGoes", "(I)V"⟩ ⟨"WeighedHallModel", "minuteGoes", "(I)V"⟩ ∈ GT := gt_mem 103 (by decide +kernel) rfl
theorem d_X11_goes_0 : decode cX11_goes 0 = .ok (.aload_n 0, 1) := by decide +kernel
theorem d_X11_goes_1 : decode cX11_goes 1 = .ok (.invokevirtual 253, 3) := by decide +kernel
theorem d_X11_goes_4 : decode cX11_goes 4 = .ok (.iconst 0, 1) := by decide +kernel
theorem d_X11_goes_5 : decode cX11_goes 5 = .ok (.istore_n 2, 1) := by decide +kernel
theorem d_X11_goes_6 : decode cX11_goes 6 = .ok (.iload_n 2, 1) := by decide +kernel
theorem d_X11_goes_7 : decode cX11_goes 7 = .ok (.iload_n 1, 1) := by decide +kernel
theorem d_X11_goes_8 : decode cX11_goes 8 = .ok (.if_icmp .gt 14, 3) := by decide +kernel
theorem d_X11_goes_11 : decode cX11_goes 11 = .ok (.aload_n 0, 1) := by decide +kernel
theorem d_X11_goes_12 : decode cX11_goes 12 = .ok (.iload_n 2, 1) := by decide +kernel
theorem d_X11_goes_13 : decode cX11_goes 13 = .ok (.invokevirtual 256, 3) := by decide +kernel
theorem d_X11_goes_16 : decode cX11_goes 16 = .ok (.iinc 2 1, 3) := by decide +kernel
theorem d_X11_goes_19 : decode cX11_goes 19 = .ok (.goto (-13), 3) := by decide +kernel
theorem d_X11_goes_22 : decode cX11_goes 22 = .ok (.return_, 1) := by decide +kernel
set_option maxRecDepth 100000 in
theorem L_X11_goes {p : Program} {l : Launch} {e : Env} {s : State} {m : MethodId} {args : Array Value} {below : List Frame} {meth : Method} {c : Code} {D : va_G} {ca : Nat → ClassId} {ad sx sy : Nat → Nat} {A : Nat → Prop} {Q : QT} (C0 : CX p s m args meth c cX11_goes 3 yX11_goes.cls D ca ad A) (hE : EX sx sy A s s.heap) (hr : meth.sig.returnType = none) (hno : ∀ x ∈ c.exceptionTable.toList, False) : R_X11_goes (JW p l e { frames := 13, cells := 0, slots := 6 * 0, locals := 270 } s m args below meth c 3 D ca ad A (vx_MQ below (Qn D ca ad A Q) (Qx D ca ad A Q) args s 0 (6 * 0) A) gz gz true) Q := ⟨s_aln C0 (d_X11_goes_0) hgz (s_callV C0 hE (c_X11_begins l) wg1481 wg1478 wg1480 ws102 wg12 ⟨by decide, by decide⟩ (by decide +kernel) (c0 := 11) rfl ⟨by decide, by decide⟩ ⟨by decide, by decide⟩ (d_X11_goes_1) (fun x hx => (hno x hx).elim) ⟨by decide, by decide⟩ ⟨by decide, by decide⟩ (s_ic C0 (d_X11_goes_4) hgz (s_isn C0 (d_X11_goes_5) hgz (fun _ _ _ h => h)) (okn rfl))),
  s_iln C0 (d_X11_goes_6) hgz (s_iln C0 (d_X11_goes_7) hgz (s_cgt C0 (d_X11_goes_8) (by decide) hgz hgz (fun _ _ _ h => h) (s_aln C0 (d_X11_goes_11) hgz (s_iln C0 (d_X11_goes_12) hgz (s_callV C0 hE (c_X11_minuteGoes l) wg1485 wg1482 wg1484 ws103 wg12 ⟨by decide, by decide⟩ (by decide +kernel) (c0 := 11) rfl ⟨by decide, by decide⟩ ⟨by decide, by decide⟩ (d_X11_goes_13) (fun x hx => (hno x hx).elim) ⟨by decide, by decide⟩ ⟨by decide, by decide⟩ (s_inc C0 (d_X11_goes_16) hgz (s_goto C0 (tgt := 6) (d_X11_goes_19) (by decide) hgz (fun _ _ _ h => h)))))))),
  s_rv C0 hr (d_X11_goes_22) ⟨by decide, by decide⟩⟩
theorem c_X11_goes (l : Launch) : Ctr l yX11_goes cX11_goes 3 none 13 270 0 (fun sx => (nf G_X11_goes)) := ctr_of (by decide) gz gz ⟨rfl, rfl⟩ (fun p e s m args below meth c D ca ad sx sy A Q as M C0 hE hr hno hF => P_X11_goes (L_X11_goes C0 hE hr hno) hF)
theorem wg1477 : Cond.code ⟨"WeighedHallModel", "goes", "(I)V"⟩ prog_13_method_42_code 3 (Option.none : Option FieldType) ∈ GT := gt_mem 1597 (by decide +kernel) rfl
theorem wg1474 : Cond.methodLink "WeighedHallModel" 260 ⟨"WeighedHallModel", "goes", "(I)V"⟩ ∈ GT := gt_mem 1594 (by decide +kernel) rfl
theorem wg1476 : Cond.instanceMethod ⟨"WeighedHallModel", "goes", "(I)V"⟩ ∈ GT := gt_mem 1596 (by decide +kernel) rfl
theorem ws101 : Cond.selects "WeighedHallModel" ⟨"WeighedHallModel", "goes", "(I)V"⟩ ⟨"WeighedHallModel", "goes", "(I)V"⟩ ∈ GT := gt_mem 101 (by decide +kernel) rfl
theorem wg1473 : Cond.constant "WeighedHallModel" 259 1000000 ∈ GT := gt_mem 1593 (by decide +kernel) rfl
theorem d_X11_goesAll_0 : decode cX11_goesAll 0 = .ok (.aload_n 0, 1) := by decide +kernel
theorem d_X11_goesAll_1 : decode cX11_goesAll 1 = .ok (.ldc_w 259, 3) := by decide +kernel
theorem d_X11_goesAll_4 : decode cX11_goesAll 4 = .ok (.putfield 229, 3) := by decide +kernel
theorem d_X11_goesAll_7 : decode cX11_goesAll 7 = .ok (.aload_n 0, 1) := by decide +kernel
theorem d_X11_goesAll_8 : decode cX11_goesAll 8 = .ok (.bipush 119, 2) := by decide +kernel
theorem d_X11_goesAll_10 : decode cX11_goesAll 10 = .ok (.invokevirtual 260, 3) := by decide +kernel
theorem d_X11_goesAll_13 : decode cX11_goesAll 13 = .ok (.return_, 1) := by decide +kernel
set_option maxRecDepth 100000 in
theorem L_X11_goesAll {p : Program} {l : Launch} {e : Env} {s : State} {m : MethodId} {args : Array Value} {below : List Frame} {meth : Method} {c : Code} {D : va_G} {ca : Nat → ClassId} {ad sx sy : Nat → Nat} {A : Nat → Prop} {Q : QT} (C0 : CX p s m args meth c cX11_goesAll 1 yX11_goesAll.cls D ca ad A) (hE : EX sx sy A s s.heap) (hr : meth.sig.returnType = none) (hno : ∀ x ∈ c.exceptionTable.toList, False) : R_X11_goesAll (JW p l e { frames := 14, cells := 0, slots := 6 * 0, locals := 292 } s m args below meth c 1 D ca ad A (vx_MQ below (Qn D ca ad A Q) (Qx D ca ad A Q) args s 0 (6 * 0) A) gz gz true) Q := s_aln C0 (d_X11_goesAll_0) hgz (s_ldcw C0 (n := 1000000) wg1473 (d_X11_goesAll_1) hgz (s_pi C0 (j := 36) (c0 := 11) rfl gX11 tyX11_ok nmX11 (by decide) rfl (by decide) rfl rfl wg1237 (d_X11_goesAll_4) hgz (s_aln C0 (d_X11_goesAll_7) hgz (s_bi C0 (d_X11_goesAll_8) hgz (s_callV C0 hE (c_X11_goes l) wg1477 wg1474 wg1476 ws101 wg12 ⟨by decide, by decide⟩ (by decide +kernel) (c0 := 11) rfl ⟨by decide, by decide⟩ ⟨by decide, by decide⟩ (d_X11_goesAll_10) (fun x hx => (hno x hx).elim) ⟨by decide, by decide⟩ ⟨by decide, by decide⟩ (s_rv C0 hr (d_X11_goesAll_13) ⟨by decide, by decide⟩)) (okn rfl) rfl))) (okn rfl))
theorem c_X11_goesAll (l : Launch) : Ctr l yX11_goesAll cX11_goesAll 1 none 14 292 0 (fun sx => (nf G_X11_goesAll)) := ctr_of (by decide) gz gz ⟨rfl, rfl⟩ (fun p e s m args below meth c D ca ad sx sy A Q as M C0 hE hr hno hF => P_X11_goesAll (L_X11_goesAll C0 hE hr hno) hF)
theorem wg1458 : Cond.code ⟨"WeighedHallModel", "isThing", "(I)Z"⟩ prog_13_method_27_code 2 (Option.some .boolean) ∈ GT := gt_mem 1578 (by decide +kernel) rfl
theorem wg1455 : Cond.methodLink "WeighedHallModel" 220 ⟨"WeighedHallModel", "isThing", "(I)Z"⟩ ∈ GT := gt_mem 1575 (by decide +kernel) rfl
theorem wg1457 : Cond.instanceMethod ⟨"WeighedHallModel", "isThing", "(I)Z"⟩ ∈ GT := gt_mem 1577 (by decide +kernel) rfl
theorem ws99 : Cond.selects "WeighedHallModel" ⟨"WeighedHallModel", "isThing", "(I)Z"⟩ ⟨"WeighedHallModel", "isThing", "(I)Z"⟩ ∈ GT := gt_mem 99 (by decide +kernel) rfl
theorem wg1535 : Cond.code ⟨"WeighedHallModel", "passesBy", "(I)I"⟩ prog_13_method_49_code 4 (Option.some .int) ∈ GT := gt_mem 1655 (by decide +kernel) rfl
theorem wg1532 : Cond.methodLink "WeighedHallModel" 275 ⟨"WeighedHallModel", "passesBy", "(I)I"⟩ ∈ GT := gt_mem 1652 (by decide +kernel) rfl
theorem wg1534 : Cond.instanceMethod ⟨"WeighedHallModel", "passesBy", "(I)I"⟩ ∈ GT := gt_mem 1654 (by decide +kernel) rfl
theorem ws111 : Cond.selects "WeighedHallModel" ⟨"WeighedHallModel", "passesBy", "(I)I"⟩ ⟨"WeighedHallModel", "passesBy", "(I)I"⟩ ∈ GT := gt_mem 111 (by decide +kernel) rfl
theorem wg1520 : Cond.code ⟨"WeighedHallModel", "goesAll", "()V"⟩ prog_13_method_43_code 1 (Option.none : Option FieldType) ∈ GT := gt_mem 1640 (by decide +kernel) rfl
theorem wg1517 : Cond.methodLink "WeighedHallModel" 266 ⟨"WeighedHallModel", "goesAll", "()V"⟩ ∈ GT := gt_mem 1637 (by decide +kernel) rfl
theorem wg1519 : Cond.instanceMethod ⟨"WeighedHallModel", "goesAll", "()V"⟩ ∈ GT := gt_mem 1639 (by decide +kernel) rfl
theorem ws109 : Cond.selects "WeighedHallModel" ⟨"WeighedHallModel", "goesAll", "()V"⟩ ⟨"WeighedHallModel", "goesAll", "()V"⟩ ∈ GT := gt_mem 109 (by decide +kernel) rfl
theorem d_X11_decides_0 : decode cX11_decides 0 = .ok (.aload_n 0, 1) := by decide +kernel
theorem d_X11_decides_1 : decode cX11_decides 1 = .ok (.iconst 0, 1) := by decide +kernel
theorem d_X11_decides_2 : decode cX11_decides 2 = .ok (.putfield 106, 3) := by decide +kernel
theorem d_X11_decides_5 : decode cX11_decides 5 = .ok (.aload_n 0, 1) := by decide +kernel
theorem d_X11_decides_6 : decode cX11_decides 6 = .ok (.aload_n 0, 1) := by decide +kernel
theorem d_X11_decides_7 : decode cX11_decides 7 = .ok (.iload_n 1, 1) := by decide +kernel
theorem d_X11_decides_8 : decode cX11_decides 8 = .ok (.invokevirtual 220, 3) := by decide +kernel
theorem d_X11_decides_11 : decode cX11_decides 11 = .ok (.ifCond .ne 7, 3) := by decide +kernel
theorem d_X11_decides_14 : decode cX11_decides 14 = .ok (.iconst 1, 1) := by decide +kernel
theorem d_X11_decides_15 : decode cX11_decides 15 = .ok (.goto 4, 3) := by decide +kernel
theorem d_X11_decides_18 : decode cX11_decides 18 = .ok (.iconst 0, 1) := by decide +kernel
theorem d_X11_decides_19 : decode cX11_decides 19 = .ok (.iconst 1, 1) := by decide +kernel
theorem d_X11_decides_20 : decode cX11_decides 20 = .ok (.iconst 0, 1) := by decide +kernel
theorem d_X11_decides_21 : decode cX11_decides 21 = .ok (.invokevirtual 188, 3) := by decide +kernel
theorem d_X11_decides_24 : decode cX11_decides 24 = .ok (.ifCond .eq 5, 3) := by decide +kernel
theorem d_X11_decides_27 : decode cX11_decides 27 = .ok (.iconst 0, 1) := by decide +kernel
theorem d_X11_decides_28 : decode cX11_decides 28 = .ok (.ireturn, 1) := by decide +kernel
theorem d_X11_decides_29 : decode cX11_decides 29 = .ok (.aload_n 0, 1) := by decide +kernel
theorem d_X11_decides_30 : decode cX11_decides 30 = .ok (.invokevirtual 266, 3) := by decide +kernel
theorem d_X11_decides_33 : decode cX11_decides 33 = .ok (.aload_n 0, 1) := by decide +kernel
theorem d_X11_decides_34 : decode cX11_decides 34 = .ok (.aload_n 0, 1) := by decide +kernel
theorem d_X11_decides_35 : decode cX11_decides 35 = .ok (.getfield 23, 3) := by decide +kernel
theorem d_X11_decides_38 : decode cX11_decides 38 = .ok (.iconst 4, 1) := by decide +kernel
theorem d_X11_decides_39 : decode cX11_decides 39 = .ok (.iaload, 1) := by decide +kernel
theorem d_X11_decides_40 : decode cX11_decides 40 = .ok (.invokevirtual 275, 3) := by decide +kernel
theorem d_X11_decides_43 : decode cX11_decides 43 = .ok (.istore_n 2, 1) := by decide +kernel
theorem d_X11_decides_44 : decode cX11_decides 44 = .ok (.aload_n 0, 1) := by decide +kernel
theorem d_X11_decides_45 : decode cX11_decides 45 = .ok (.iload_n 1, 1) := by decide +kernel
theorem d_X11_decides_46 : decode cX11_decides 46 = .ok (.putfield 87, 3) := by decide +kernel
theorem d_X11_decides_49 : decode cX11_decides 49 = .ok (.aload_n 0, 1) := by decide +kernel
theorem d_X11_decides_50 : decode cX11_decides 50 = .ok (.invokevirtual 266, 3) := by decide +kernel
theorem d_X11_decides_53 : decode cX11_decides 53 = .ok (.aload_n 0, 1) := by decide +kernel
theorem d_X11_decides_54 : decode cX11_decides 54 = .ok (.iconst (-1), 1) := by decide +kernel
theorem d_X11_decides_55 : decode cX11_decides 55 = .ok (.putfield 87, 3) := by decide +kernel
theorem d_X11_decides_58 : decode cX11_decides 58 = .ok (.iload_n 2, 1) := by decide +kernel
theorem d_X11_decides_59 : decode cX11_decides 59 = .ok (.aload_n 0, 1) := by decide +kernel
theorem d_X11_decides_60 : decode cX11_decides 60 = .ok (.aload_n 0, 1) := by decide +kernel
theorem d_X11_decides_61 : decode cX11_decides 61 = .ok (.getfield 23, 3) := by decide +kernel
theorem d_X11_decides_64 : decode cX11_decides 64 = .ok (.iconst 4, 1) := by decide +kernel
theorem d_X11_decides_65 : decode cX11_decides 65 = .ok (.iaload, 1) := by decide +kernel
theorem d_X11_decides_66 : decode cX11_decides 66 = .ok (.invokevirtual 275, 3) := by decide +kernel
theorem d_X11_decides_69 : decode cX11_decides 69 = .ok (.ixor, 1) := by decide +kernel
theorem d_X11_decides_70 : decode cX11_decides 70 = .ok (.ireturn, 1) := by decide +kernel
set_option maxRecDepth 100000 in
theorem L_X11_decides {p : Program} {l : Launch} {e : Env} {s : State} {m : MethodId} {args : Array Value} {below : List Frame} {meth : Method} {c : Code} {D : va_G} {ca : Nat → ClassId} {ad sx sy : Nat → Nat} {A : Nat → Prop} {Q : QT} (C0 : CX p s m args meth c cX11_decides 3 yX11_decides.cls D ca ad A) (hE : EX sx sy A s s.heap) (hr : meth.sig.returnType = (some .int)) (hno : ∀ x ∈ c.exceptionTable.toList, False) : R_X11_decides (JW p l e { frames := 15, cells := 0, slots := 6 * 0, locals := 312 } s m args below meth c 3 D ca ad A (vx_MQ below (Qn D ca ad A Q) (Qx D ca ad A Q) args s 0 (6 * 0) A) gz gz true) Q := ⟨s_aln C0 (d_X11_decides_0) hgz (s_ic C0 (d_X11_decides_1) hgz (s_pi C0 (j := 0) (c0 := 11) rfl gX11 tyX11_ok nmX11 (by decide) rfl (by decide) rfl rfl wg1201 (d_X11_decides_2) hgz (s_aln C0 (d_X11_decides_5) hgz (s_aln C0 (d_X11_decides_6) hgz (s_iln C0 (d_X11_decides_7) hgz (s_callV C0 hE (c_X11_isThing l) wg1458 wg1455 wg1457 ws99 wg12 ⟨by decide, by decide⟩ (by decide +kernel) (c0 := 11) rfl ⟨by decide, by decide⟩ ⟨by decide, by decide⟩ (d_X11_decides_8) (fun x hx => (hno x hx).elim) ⟨by decide, by decide⟩ ⟨by decide, by decide⟩ (s_zne C0 (d_X11_decides_11) (by decide) hgz hgz (fun _ _ _ h => h) (s_ic C0 (d_X11_decides_14) hgz (s_goto C0 (tgt := 19) (d_X11_decides_15) (by decide) hgz (fun _ _ _ h => h)) (okn rfl)))))))) (okn rfl)),
  s_ic C0 (d_X11_decides_18) hgz (fun _ _ _ h => h) (okn rfl),
  s_ic C0 (d_X11_decides_19) hgz (s_ic C0 (d_X11_decides_20) hgz (s_callV C0 hE (c_X11_bad l) wg1359 wg1356 wg1358 ws82 wg12 ⟨by decide, by decide⟩ (by decide +kernel) (c0 := 11) rfl ⟨by decide, by decide⟩ ⟨by decide, by decide⟩ (d_X11_decides_21) (fun x hx => (hno x hx).elim) ⟨by decide, by decide⟩ ⟨by decide, by decide⟩ (s_zeq C0 (d_X11_decides_24) (by decide) hgz hgz (fun _ _ _ h => h) (s_ic C0 (d_X11_decides_27) hgz (s_ri C0 hr (d_X11_decides_28) ⟨by decide, by decide⟩) (okn rfl)))) (okn rfl)) (okn rfl),
  s_aln C0 (d_X11_decides_29) hgz (s_callV C0 hE (c_X11_goesAll l) wg1520 wg1517 wg1519 ws109 wg12 ⟨by decide, by decide⟩ (by decide +kernel) (c0 := 11) rfl ⟨by decide, by decide⟩ ⟨by decide, by decide⟩ (d_X11_decides_30) (fun x hx => (hno x hx).elim) ⟨by decide, by decide⟩ ⟨by decide, by decide⟩ (s_aln C0 (d_X11_decides_33) hgz (s_aln C0 (d_X11_decides_34) hgz (s_gr C0 (j := 11) (c0 := 11) rfl gX11 (by decide) rfl rfl wg1212 (d_X11_decides_35) hgz (s_ic C0 (d_X11_decides_38) hgz (s_ia C0 (d_X11_decides_39) hgz (s_callV C0 hE (c_X11_passesBy l) wg1535 wg1532 wg1534 ws111 wg12 ⟨by decide, by decide⟩ (by decide +kernel) (c0 := 11) rfl ⟨by decide, by decide⟩ ⟨by decide, by decide⟩ (d_X11_decides_40) (fun x hx => (hno x hx).elim) ⟨by decide, by decide⟩ ⟨by decide, by decide⟩ (s_isn C0 (d_X11_decides_43) hgz (s_aln C0 (d_X11_decides_44) hgz (s_iln C0 (d_X11_decides_45) hgz (s_pi C0 (j := 35) (c0 := 11) rfl gX11 tyX11_ok nmX11 (by decide) rfl (by decide) rfl rfl wg1236 (d_X11_decides_46) hgz (s_aln C0 (d_X11_decides_49) hgz (s_callV C0 hE (c_X11_goesAll l) wg1520 wg1517 wg1519 ws109 wg12 ⟨by decide, by decide⟩ (by decide +kernel) (c0 := 11) rfl ⟨by decide, by decide⟩ ⟨by decide, by decide⟩ (d_X11_decides_50) (fun x hx => (hno x hx).elim) ⟨by decide, by decide⟩ ⟨by decide, by decide⟩ (s_aln C0 (d_X11_decides_53) hgz (s_ic C0 (d_X11_decides_54) hgz (s_pi C0 (j := 35) (c0 := 11) rfl gX11 tyX11_ok nmX11 (by decide) rfl (by decide) rfl rfl wg1236 (d_X11_decides_55) hgz (s_iln C0 (d_X11_decides_58) hgz (s_aln C0 (d_X11_decides_59) hgz (s_aln C0 (d_X11_decides_60) hgz (s_gr C0 (j := 11) (c0 := 11) rfl gX11 (by decide) rfl rfl wg1212 (d_X11_decides_61) hgz (s_ic C0 (d_X11_decides_64) hgz (s_ia C0 (d_X11_decides_65) hgz (s_callV C0 hE (c_X11_passesBy l) wg1535 wg1532 wg1534 ws111 wg12 ⟨by decide, by decide⟩ (by decide +kernel) (c0 := 11) rfl ⟨by decide, by decide⟩ ⟨by decide, by decide⟩ (d_X11_decides_66) (fun x hx => (hno x hx).elim) ⟨by decide, by decide⟩ ⟨by decide, by decide⟩ (s_xor C0 (d_X11_decides_69) hgz (s_ri C0 hr (d_X11_decides_70) ⟨by decide, by decide⟩)))) (okn rfl))))))) (okn rfl))))))))))) (okn rfl))))))⟩
theorem c_X11_decides (l : Launch) : Ctr l yX11_decides cX11_decides 3 (some .int) 15 312 0 (fun sx => (nf G_X11_decides)) := ctr_of (by decide) gz gz ⟨rfl, rfl⟩ (fun p e s m args below meth c D ca ad sx sy A Q as M C0 hE hr hno hF => P_X11_decides (L_X11_decides C0 hE hr hno) hF)
theorem wg1204 : Cond.fieldLink "WeighedHallModel" 9 "WeighedHallModel" "place" "I" ∈ GT := gt_mem 1324 (by decide +kernel) rfl
theorem d_X11_fault_0 : decode cX11_fault 0 = .ok (.aload_n 0, 1) := by decide +kernel
theorem d_X11_fault_1 : decode cX11_fault 1 = .ok (.iconst 0, 1) := by decide +kernel
theorem d_X11_fault_2 : decode cX11_fault 2 = .ok (.putfield 106, 3) := by decide +kernel
theorem d_X11_fault_5 : decode cX11_fault 5 = .ok (.aload_n 0, 1) := by decide +kernel
theorem d_X11_fault_6 : decode cX11_fault 6 = .ok (.getfield 9, 3) := by decide +kernel
theorem d_X11_fault_9 : decode cX11_fault 9 = .ok (.ireturn, 1) := by decide +kernel
set_option maxRecDepth 100000 in
theorem L_X11_fault {p : Program} {l : Launch} {e : Env} {s : State} {m : MethodId} {args : Array Value} {below : List Frame} {meth : Method} {c : Code} {D : va_G} {ca : Nat → ClassId} {ad sx sy : Nat → Nat} {A : Nat → Prop} {Q : QT} (C0 : CX p s m args meth c cX11_fault 1 yX11_fault.cls D ca ad A) (hE : EX sx sy A s s.heap) (hr : meth.sig.returnType = (some .int)) (hno : ∀ x ∈ c.exceptionTable.toList, False) : R_X11_fault (JW p l e { frames := 10, cells := 0, slots := 6 * 0, locals := 200 } s m args below meth c 1 D ca ad A (vx_MQ below (Qn D ca ad A Q) (Qx D ca ad A Q) args s 0 (6 * 0) A) gz gz true) Q := s_aln C0 (d_X11_fault_0) hgz (s_ic C0 (d_X11_fault_1) hgz (s_pi C0 (j := 0) (c0 := 11) rfl gX11 tyX11_ok nmX11 (by decide) rfl (by decide) rfl rfl wg1201 (d_X11_fault_2) hgz (s_aln C0 (d_X11_fault_5) hgz (s_gi C0 (j := 3) (c0 := 11) rfl gX11 (by decide) rfl (by decide) wg1204 (d_X11_fault_6) hgz (s_ri C0 hr (d_X11_fault_9) ⟨by decide, by decide⟩)))) (okn rfl))
theorem c_X11_fault (l : Launch) : Ctr l yX11_fault cX11_fault 1 (some .int) 10 200 0 (fun sx => (nf G_X11_fault)) := ctr_of (by decide) gz gz ⟨rfl, rfl⟩ (fun p e s m args below meth c D ca ad sx sy A Q as M C0 hE hr hno hF => P_X11_fault (L_X11_fault C0 hE hr hno) hF)
theorem d_X11_feed_0 : decode cX11_feed 0 = .ok (.aload_n 0, 1) := by decide +kernel
theorem d_X11_feed_1 : decode cX11_feed 1 = .ok (.iconst 0, 1) := by decide +kernel
theorem d_X11_feed_2 : decode cX11_feed 2 = .ok (.putfield 106, 3) := by decide +kernel
theorem d_X11_feed_5 : decode cX11_feed 5 = .ok (.aload_n 0, 1) := by decide +kernel
theorem d_X11_feed_6 : decode cX11_feed 6 = .ok (.getfield 109, 3) := by decide +kernel
theorem d_X11_feed_9 : decode cX11_feed 9 = .ok (.bipush 20, 2) := by decide +kernel
theorem d_X11_feed_11 : decode cX11_feed 11 = .ok (.iadd, 1) := by decide +kernel
theorem d_X11_feed_12 : decode cX11_feed 12 = .ok (.sipush 600, 3) := by decide +kernel
theorem d_X11_feed_15 : decode cX11_feed 15 = .ok (.if_icmp .le 5, 3) := by decide +kernel
theorem d_X11_feed_18 : decode cX11_feed 18 = .ok (.iconst (-1), 1) := by decide +kernel
theorem d_X11_feed_19 : decode cX11_feed 19 = .ok (.ireturn, 1) := by decide +kernel
theorem d_X11_feed_20 : decode cX11_feed 20 = .ok (.iconst 0, 1) := by decide +kernel
theorem d_X11_feed_21 : decode cX11_feed 21 = .ok (.istore 6, 2) := by decide +kernel
theorem d_X11_feed_23 : decode cX11_feed 23 = .ok (.iload 6, 2) := by decide +kernel
theorem d_X11_feed_25 : decode cX11_feed 25 = .ok (.bipush 20, 2) := by decide +kernel
theorem d_X11_feed_27 : decode cX11_feed 27 = .ok (.if_icmp .ge 93, 3) := by decide +kernel
theorem d_X11_feed_30 : decode cX11_feed 30 = .ok (.iload 6, 2) := by decide +kernel
theorem d_X11_feed_32 : decode cX11_feed 32 = .ok (.iconst 4, 1) := by decide +kernel
theorem d_X11_feed_33 : decode cX11_feed 33 = .ok (.if_icmp .ge 7, 3) := by decide +kernel
theorem d_X11_feed_36 : decode cX11_feed 36 = .ok (.iload_n 1, 1) := by decide +kernel
theorem d_X11_feed_37 : decode cX11_feed 37 = .ok (.goto 39, 3) := by decide +kernel
theorem d_X11_feed_40 : decode cX11_feed 40 = .ok (.iload 6, 2) := by decide +kernel
theorem d_X11_feed_42 : decode cX11_feed 42 = .ok (.bipush 8, 2) := by decide +kernel
theorem d_X11_feed_44 : decode cX11_feed 44 = .ok (.if_icmp .ge 7, 3) := by decide +kernel
theorem d_X11_feed_47 : decode cX11_feed 47 = .ok (.iload_n 2, 1) := by decide +kernel
theorem d_X11_feed_48 : decode cX11_feed 48 = .ok (.goto 28, 3) := by decide +kernel
theorem d_X11_feed_51 : decode cX11_feed 51 = .ok (.iload 6, 2) := by decide +kernel
theorem d_X11_feed_53 : decode cX11_feed 53 = .ok (.bipush 12, 2) := by decide +kernel
theorem d_X11_feed_55 : decode cX11_feed 55 = .ok (.if_icmp .ge 7, 3) := by decide +kernel
theorem d_X11_feed_58 : decode cX11_feed 58 = .ok (.iload_n 3, 1) := by decide +kernel
theorem d_X11_feed_59 : decode cX11_feed 59 = .ok (.goto 17, 3) := by decide +kernel
theorem d_X11_feed_62 : decode cX11_feed 62 = .ok (.iload 6, 2) := by decide +kernel
theorem d_X11_feed_64 : decode cX11_feed 64 = .ok (.bipush 16, 2) := by decide +kernel
theorem d_X11_feed_66 : decode cX11_feed 66 = .ok (.if_icmp .ge 8, 3) := by decide +kernel
theorem d_X11_feed_69 : decode cX11_feed 69 = .ok (.iload 4, 2) := by decide +kernel
theorem d_X11_feed_71 : decode cX11_feed 71 = .ok (.goto 5, 3) := by decide +kernel
theorem d_X11_feed_74 : decode cX11_feed 74 = .ok (.iload 5, 2) := by decide +kernel
theorem d_X11_feed_76 : decode cX11_feed 76 = .ok (.istore 7, 2) := by decide +kernel
theorem d_X11_feed_78 : decode cX11_feed 78 = .ok (.aload_n 0, 1) := by decide +kernel
theorem d_X11_feed_79 : decode cX11_feed 79 = .ok (.getfield 13, 3) := by decide +kernel
theorem d_X11_feed_82 : decode cX11_feed 82 = .ok (.aload_n 0, 1) := by decide +kernel
theorem d_X11_feed_83 : decode cX11_feed 83 = .ok (.getfield 109, 3) := by decide +kernel
theorem d_X11_feed_86 : decode cX11_feed 86 = .ok (.iload 7, 2) := by decide +kernel
theorem d_X11_feed_88 : decode cX11_feed 88 = .ok (.bipush 24, 2) := by decide +kernel
theorem d_X11_feed_90 : decode cX11_feed 90 = .ok (.bipush 8, 2) := by decide +kernel
theorem d_X11_feed_92 : decode cX11_feed 92 = .ok (.iload 6, 2) := by decide +kernel
theorem d_X11_feed_94 : decode cX11_feed 94 = .ok (.iconst 4, 1) := by decide +kernel
theorem d_X11_feed_95 : decode cX11_feed 95 = .ok (.irem, 1) := by decide +kernel
theorem d_X11_feed_96 : decode cX11_feed 96 = .ok (.imul, 1) := by decide +kernel
theorem d_X11_feed_97 : decode cX11_feed 97 = .ok (.isub, 1) := by decide +kernel
theorem d_X11_feed_98 : decode cX11_feed 98 = .ok (.ishr, 1) := by decide +kernel
theorem d_X11_feed_99 : decode cX11_feed 99 = .ok (.sipush 255, 3) := by decide +kernel
theorem d_X11_feed_102 : decode cX11_feed 102 = .ok (.iand, 1) := by decide +kernel
theorem d_X11_feed_103 : decode cX11_feed 103 = .ok (.iastore, 1) := by decide +kernel
theorem d_X11_feed_104 : decode cX11_feed 104 = .ok (.aload_n 0, 1) := by decide +kernel
theorem d_X11_feed_105 : decode cX11_feed 105 = .ok (.dup, 1) := by decide +kernel
theorem d_X11_feed_106 : decode cX11_feed 106 = .ok (.getfield 109, 3) := by decide +kernel
theorem d_X11_feed_109 : decode cX11_feed 109 = .ok (.iconst 1, 1) := by decide +kernel
theorem d_X11_feed_110 : decode cX11_feed 110 = .ok (.iadd, 1) := by decide +kernel
theorem d_X11_feed_111 : decode cX11_feed 111 = .ok (.putfield 109, 3) := by decide +kernel
theorem d_X11_feed_114 : decode cX11_feed 114 = .ok (.iinc 6 1, 3) := by decide +kernel
theorem d_X11_feed_117 : decode cX11_feed 117 = .ok (.goto (-94), 3) := by decide +kernel
theorem d_X11_feed_120 : decode cX11_feed 120 = .ok (.aload_n 0, 1) := by decide +kernel
theorem d_X11_feed_121 : decode cX11_feed 121 = .ok (.getfield 109, 3) := by decide +kernel
theorem d_X11_feed_124 : decode cX11_feed 124 = .ok (.ireturn, 1) := by decide +kernel
set_option maxRecDepth 100000 in
theorem L_X11_feed {p : Program} {l : Launch} {e : Env} {s : State} {m : MethodId} {args : Array Value} {below : List Frame} {meth : Method} {c : Code} {D : va_G} {ca : Nat → ClassId} {ad sx sy : Nat → Nat} {A : Nat → Prop} {Q : QT} (C0 : CX p s m args meth c cX11_feed 8 yX11_feed.cls D ca ad A) (hE : EX sx sy A s s.heap) (hr : meth.sig.returnType = (some .int)) (hno : ∀ x ∈ c.exceptionTable.toList, False) : R_X11_feed (JW p l e { frames := 10, cells := 0, slots := 6 * 0, locals := 200 } s m args below meth c 8 D ca ad A (vx_MQ below (Qn D ca ad A Q) (Qx D ca ad A Q) args s 0 (6 * 0) A) gz gz true) Q := ⟨s_aln C0 (d_X11_feed_0) hgz (s_ic C0 (d_X11_feed_1) hgz (s_pi C0 (j := 0) (c0 := 11) rfl gX11 tyX11_ok nmX11 (by decide) rfl (by decide) rfl rfl wg1201 (d_X11_feed_2) hgz (s_aln C0 (d_X11_feed_5) hgz (s_gi C0 (j := 1) (c0 := 11) rfl gX11 (by decide) rfl (by decide) wg1202 (d_X11_feed_6) hgz (s_bi C0 (d_X11_feed_9) hgz (s_add C0 (d_X11_feed_11) hgz (s_si C0 (d_X11_feed_12) hgz (s_cle C0 (d_X11_feed_15) (by decide) hgz hgz (fun _ _ _ h => h) (s_ic C0 (d_X11_feed_18) hgz (s_ri C0 hr (d_X11_feed_19) ⟨by decide, by decide⟩) (okn rfl))) (okn rfl) rfl)) (okn rfl) rfl)))) (okn rfl)),
  s_ic C0 (d_X11_feed_20) hgz (s_is C0 (d_X11_feed_21) hgz (fun _ _ _ h => h)) (okn rfl),
  s_il C0 (d_X11_feed_23) hgz (s_bi C0 (d_X11_feed_25) hgz (s_cge C0 (d_X11_feed_27) (by decide) hgz hgz (fun _ _ _ h => h) (s_il C0 (d_X11_feed_30) hgz (s_ic C0 (d_X11_feed_32) hgz (s_cge C0 (d_X11_feed_33) (by decide) hgz hgz (fun _ _ _ h => h) (s_iln C0 (d_X11_feed_36) hgz (s_goto C0 (tgt := 76) (d_X11_feed_37) (by decide) hgz (fun _ _ _ h => h)))) (okn rfl)))) (okn rfl) rfl),
  s_il C0 (d_X11_feed_40) hgz (s_bi C0 (d_X11_feed_42) hgz (s_cge C0 (d_X11_feed_44) (by decide) hgz hgz (fun _ _ _ h => h) (s_iln C0 (d_X11_feed_47) hgz (s_goto C0 (tgt := 76) (d_X11_feed_48) (by decide) hgz (fun _ _ _ h => h)))) (okn rfl) rfl),
  s_il C0 (d_X11_feed_51) hgz (s_bi C0 (d_X11_feed_53) hgz (s_cge C0 (d_X11_feed_55) (by decide) hgz hgz (fun _ _ _ h => h) (s_iln C0 (d_X11_feed_58) hgz (s_goto C0 (tgt := 76) (d_X11_feed_59) (by decide) hgz (fun _ _ _ h => h)))) (okn rfl) rfl),
  s_il C0 (d_X11_feed_62) hgz (s_bi C0 (d_X11_feed_64) hgz (s_cge C0 (d_X11_feed_66) (by decide) hgz hgz (fun _ _ _ h => h) (s_il C0 (d_X11_feed_69) hgz (s_goto C0 (tgt := 76) (d_X11_feed_71) (by decide) hgz (fun _ _ _ h => h)))) (okn rfl) rfl),
  s_il C0 (d_X11_feed_74) hgz (fun _ _ _ h => h),
  s_is C0 (d_X11_feed_76) hgz (s_aln C0 (d_X11_feed_78) hgz (s_gr C0 (j := 8) (c0 := 11) rfl gX11 (by decide) rfl rfl wg1209 (d_X11_feed_79) hgz (s_aln C0 (d_X11_feed_82) hgz (s_gi C0 (j := 1) (c0 := 11) rfl gX11 (by decide) rfl (by decide) wg1202 (d_X11_feed_83) hgz (s_il C0 (d_X11_feed_86) hgz (s_bi C0 (d_X11_feed_88) hgz (s_bi C0 (d_X11_feed_90) hgz (s_il C0 (d_X11_feed_92) hgz (s_ic C0 (d_X11_feed_94) hgz (s_rem C0 (d_X11_feed_95) hgz (s_mul C0 (d_X11_feed_96) hgz (s_sub C0 (d_X11_feed_97) hgz (s_shr C0 (d_X11_feed_98) hgz (s_si C0 (d_X11_feed_99) hgz (s_and C0 (d_X11_feed_102) hgz (s_iax C0 (d_X11_feed_103) hgz (s_aln C0 (d_X11_feed_104) hgz (s_dup C0 (d_X11_feed_105) hgz (s_gi C0 (j := 1) (c0 := 11) rfl gX11 (by decide) rfl (by decide) wg1202 (d_X11_feed_106) hgz (s_ic C0 (d_X11_feed_109) hgz (s_add C0 (d_X11_feed_110) hgz (s_pi C0 (j := 1) (c0 := 11) rfl gX11 tyX11_ok nmX11 (by decide) rfl (by decide) rfl rfl wg1202 (d_X11_feed_111) hgz (s_inc C0 (d_X11_feed_114) hgz (s_goto C0 (tgt := 23) (d_X11_feed_117) (by decide) hgz (fun _ _ _ h => h))))) (okn rfl))))))) (okn rfl) rfl))))) (okn rfl))) (okn rfl) rfl) (okn rfl) rfl)))))),
  s_aln C0 (d_X11_feed_120) hgz (s_gi C0 (j := 1) (c0 := 11) rfl gX11 (by decide) rfl (by decide) wg1202 (d_X11_feed_121) hgz (s_ri C0 hr (d_X11_feed_124) ⟨by decide, by decide⟩))⟩
theorem c_X11_feed (l : Launch) : Ctr l yX11_feed cX11_feed 8 (some .int) 10 200 0 (fun sx => (nf G_X11_feed)) := ctr_of (by decide) gz gz ⟨rfl, rfl⟩ (fun p e s m args below meth c D ca ad sx sy A Q as M C0 hE hr hno hF => P_X11_feed (L_X11_feed C0 hE hr hno) hF)
theorem wg1243 : Cond.fieldLink "WeighedHallModel" 100 "WeighedHallModel" "few" "[I" ∈ GT := gt_mem 1363 (by decide +kernel) rfl
theorem wg1242 : Cond.fieldLink "WeighedHallModel" 97 "WeighedHallModel" "weigh" "[I" ∈ GT := gt_mem 1362 (by decide +kernel) rfl
theorem wg1240 : Cond.fieldLink "WeighedHallModel" 90 "WeighedHallModel" "can" "[Z" ∈ GT := gt_mem 1360 (by decide +kernel) rfl
theorem wg1241 : Cond.fieldLink "WeighedHallModel" 94 "WeighedHallModel" "could" "[Z" ∈ GT := gt_mem 1361 (by decide +kernel) rfl
theorem wg1245 : Cond.fieldLink "WeighedHallModel" 284 "WeighedHallModel" "leastBits" "I" ∈ GT := gt_mem 1365 (by decide +kernel) rfl
theorem wg1244 : Cond.fieldLink "WeighedHallModel" 281 "WeighedHallModel" "leastPounds" "I" ∈ GT := gt_mem 1364 (by decide +kernel) rfl
theorem d_X11_findLeast_0 : decode cX11_findLeast 0 = .ok (.iconst 0, 1) := by decide +kernel
theorem d_X11_findLeast_1 : decode cX11_findLeast 1 = .ok (.istore_n 2, 1) := by decide +kernel
theorem d_X11_findLeast_2 : decode cX11_findLeast 2 = .ok (.aload_n 0, 1) := by decide +kernel
theorem d_X11_findLeast_3 : decode cX11_findLeast 3 = .ok (.getfield 43, 3) := by decide +kernel
theorem d_X11_findLeast_6 : decode cX11_findLeast 6 = .ok (.iload_n 1, 1) := by decide +kernel
theorem d_X11_findLeast_7 : decode cX11_findLeast 7 = .ok (.aaload, 1) := by decide +kernel
theorem d_X11_findLeast_8 : decode cX11_findLeast 8 = .ok (.iconst 1, 1) := by decide +kernel
theorem d_X11_findLeast_9 : decode cX11_findLeast 9 = .ok (.iaload, 1) := by decide +kernel
theorem d_X11_findLeast_10 : decode cX11_findLeast 10 = .ok (.istore_n 3, 1) := by decide +kernel
theorem d_X11_findLeast_11 : decode cX11_findLeast 11 = .ok (.aload_n 0, 1) := by decide +kernel
theorem d_X11_findLeast_12 : decode cX11_findLeast 12 = .ok (.invokevirtual 266, 3) := by decide +kernel
theorem d_X11_findLeast_15 : decode cX11_findLeast 15 = .ok (.aload_n 0, 1) := by decide +kernel
theorem d_X11_findLeast_16 : decode cX11_findLeast 16 = .ok (.getfield 84, 3) := by decide +kernel
theorem d_X11_findLeast_19 : decode cX11_findLeast 19 = .ok (.iload_n 1, 1) := by decide +kernel
theorem d_X11_findLeast_20 : decode cX11_findLeast 20 = .ok (.aaload, 1) := by decide +kernel
theorem d_X11_findLeast_21 : decode cX11_findLeast 21 = .ok (.iconst 0, 1) := by decide +kernel
theorem d_X11_findLeast_22 : decode cX11_findLeast 22 = .ok (.aaload, 1) := by decide +kernel
theorem d_X11_findLeast_23 : decode cX11_findLeast 23 = .ok (.iconst 1, 1) := by decide +kernel
theorem d_X11_findLeast_24 : decode cX11_findLeast 24 = .ok (.iaload, 1) := by decide +kernel
theorem d_X11_findLeast_25 : decode cX11_findLeast 25 = .ok (.istore 4, 2) := by decide +kernel
theorem d_X11_findLeast_27 : decode cX11_findLeast 27 = .ok (.iconst 0, 1) := by decide +kernel
theorem d_X11_findLeast_28 : decode cX11_findLeast 28 = .ok (.istore 5, 2) := by decide +kernel
theorem d_X11_findLeast_30 : decode cX11_findLeast 30 = .ok (.iload 5, 2) := by decide +kernel
theorem d_X11_findLeast_32 : decode cX11_findLeast 32 = .ok (.aload_n 0, 1) := by decide +kernel
theorem d_X11_findLeast_33 : decode cX11_findLeast 33 = .ok (.getfield 23, 3) := by decide +kernel
theorem d_X11_findLeast_36 : decode cX11_findLeast 36 = .ok (.iconst 1, 1) := by decide +kernel
theorem d_X11_findLeast_37 : decode cX11_findLeast 37 = .ok (.iaload, 1) := by decide +kernel
theorem d_X11_findLeast_38 : decode cX11_findLeast 38 = .ok (.if_icmp .ge 58, 3) := by decide +kernel
theorem d_X11_findLeast_41 : decode cX11_findLeast 41 = .ok (.iload_n 2, 1) := by decide +kernel
theorem d_X11_findLeast_42 : decode cX11_findLeast 42 = .ok (.bipush 10, 2) := by decide +kernel
theorem d_X11_findLeast_44 : decode cX11_findLeast 44 = .ok (.if_icmp .ge 52, 3) := by decide +kernel
theorem d_X11_findLeast_47 : decode cX11_findLeast 47 = .ok (.aload_n 0, 1) := by decide +kernel
theorem d_X11_findLeast_48 : decode cX11_findLeast 48 = .ok (.getfield 37, 3) := by decide +kernel
theorem d_X11_findLeast_51 : decode cX11_findLeast 51 = .ok (.iload 5, 2) := by decide +kernel
theorem d_X11_findLeast_53 : decode cX11_findLeast 53 = .ok (.aaload, 1) := by decide +kernel
theorem d_X11_findLeast_54 : decode cX11_findLeast 54 = .ok (.iconst 2, 1) := by decide +kernel
theorem d_X11_findLeast_55 : decode cX11_findLeast 55 = .ok (.iaload, 1) := by decide +kernel
theorem d_X11_findLeast_56 : decode cX11_findLeast 56 = .ok (.iconst (-1), 1) := by decide +kernel
theorem d_X11_findLeast_57 : decode cX11_findLeast 57 = .ok (.if_icmp .ne 33, 3) := by decide +kernel
theorem d_X11_findLeast_60 : decode cX11_findLeast 60 = .ok (.iload_n 3, 1) := by decide +kernel
theorem d_X11_findLeast_61 : decode cX11_findLeast 61 = .ok (.aload_n 0, 1) := by decide +kernel
theorem d_X11_findLeast_62 : decode cX11_findLeast 62 = .ok (.getfield 37, 3) := by decide +kernel
theorem d_X11_findLeast_65 : decode cX11_findLeast 65 = .ok (.iload 5, 2) := by decide +kernel
theorem d_X11_findLeast_67 : decode cX11_findLeast 67 = .ok (.aaload, 1) := by decide +kernel
theorem d_X11_findLeast_68 : decode cX11_findLeast 68 = .ok (.iconst 0, 1) := by decide +kernel
theorem d_X11_findLeast_69 : decode cX11_findLeast 69 = .ok (.iaload, 1) := by decide +kernel
theorem d_X11_findLeast_70 : decode cX11_findLeast 70 = .ok (.ishr, 1) := by decide +kernel
theorem d_X11_findLeast_71 : decode cX11_findLeast 71 = .ok (.iconst 1, 1) := by decide +kernel
theorem d_X11_findLeast_72 : decode cX11_findLeast 72 = .ok (.iand, 1) := by decide +kernel
theorem d_X11_findLeast_73 : decode cX11_findLeast 73 = .ok (.ifCond .ne 6, 3) := by decide +kernel
theorem d_X11_findLeast_76 : decode cX11_findLeast 76 = .ok (.goto 14, 3) := by decide +kernel
theorem d_X11_findLeast_79 : decode cX11_findLeast 79 = .ok (.aload_n 0, 1) := by decide +kernel
theorem d_X11_findLeast_80 : decode cX11_findLeast 80 = .ok (.getfield 100, 3) := by decide +kernel
theorem d_X11_findLeast_83 : decode cX11_findLeast 83 = .ok (.iload_n 2, 1) := by decide +kernel
theorem d_X11_findLeast_84 : decode cX11_findLeast 84 = .ok (.iload 5, 2) := by decide +kernel
theorem d_X11_findLeast_86 : decode cX11_findLeast 86 = .ok (.iastore, 1) := by decide +kernel
theorem d_X11_findLeast_87 : decode cX11_findLeast 87 = .ok (.iinc 2 1, 3) := by decide +kernel
theorem d_X11_findLeast_90 : decode cX11_findLeast 90 = .ok (.iinc 5 1, 3) := by decide +kernel
theorem d_X11_findLeast_93 : decode cX11_findLeast 93 = .ok (.goto (-63), 3) := by decide +kernel
theorem d_X11_findLeast_96 : decode cX11_findLeast 96 = .ok (.iconst 0, 1) := by decide +kernel
theorem d_X11_findLeast_97 : decode cX11_findLeast 97 = .ok (.istore 5, 2) := by decide +kernel
theorem d_X11_findLeast_99 : decode cX11_findLeast 99 = .ok (.iload 5, 2) := by decide +kernel
theorem d_X11_findLeast_101 : decode cX11_findLeast 101 = .ok (.iconst 1, 1) := by decide +kernel
theorem d_X11_findLeast_102 : decode cX11_findLeast 102 = .ok (.iload_n 2, 1) := by decide +kernel
theorem d_X11_findLeast_103 : decode cX11_findLeast 103 = .ok (.ishl, 1) := by decide +kernel
theorem d_X11_findLeast_104 : decode cX11_findLeast 104 = .ok (.if_icmp .ge 88, 3) := by decide +kernel
theorem d_X11_findLeast_107 : decode cX11_findLeast 107 = .ok (.aload_n 0, 1) := by decide +kernel
theorem d_X11_findLeast_108 : decode cX11_findLeast 108 = .ok (.getfield 97, 3) := by decide +kernel
theorem d_X11_findLeast_111 : decode cX11_findLeast 111 = .ok (.iload 5, 2) := by decide +kernel
theorem d_X11_findLeast_113 : decode cX11_findLeast 113 = .ok (.iconst 0, 1) := by decide +kernel
theorem d_X11_findLeast_114 : decode cX11_findLeast 114 = .ok (.iastore, 1) := by decide +kernel
theorem d_X11_findLeast_115 : decode cX11_findLeast 115 = .ok (.iconst 0, 1) := by decide +kernel
theorem d_X11_findLeast_116 : decode cX11_findLeast 116 = .ok (.istore 6, 2) := by decide +kernel
theorem d_X11_findLeast_118 : decode cX11_findLeast 118 = .ok (.iload 6, 2) := by decide +kernel
theorem d_X11_findLeast_120 : decode cX11_findLeast 120 = .ok (.iload_n 2, 1) := by decide +kernel
theorem d_X11_findLeast_121 : decode cX11_findLeast 121 = .ok (.if_icmp .ge 48, 3) := by decide +kernel
theorem d_X11_findLeast_124 : decode cX11_findLeast 124 = .ok (.aload_n 0, 1) := by decide +kernel
theorem d_X11_findLeast_125 : decode cX11_findLeast 125 = .ok (.getfield 97, 3) := by decide +kernel
theorem d_X11_findLeast_128 : decode cX11_findLeast 128 = .ok (.iload 5, 2) := by decide +kernel
theorem d_X11_findLeast_130 : decode cX11_findLeast 130 = .ok (.dup2, 1) := by decide +kernel
theorem d_X11_findLeast_131 : decode cX11_findLeast 131 = .ok (.iaload, 1) := by decide +kernel
theorem d_X11_findLeast_132 : decode cX11_findLeast 132 = .ok (.iload 5, 2) := by decide +kernel
theorem d_X11_findLeast_134 : decode cX11_findLeast 134 = .ok (.iload 6, 2) := by decide +kernel
theorem d_X11_findLeast_136 : decode cX11_findLeast 136 = .ok (.ishr, 1) := by decide +kernel
theorem d_X11_findLeast_137 : decode cX11_findLeast 137 = .ok (.iconst 1, 1) := by decide +kernel
theorem d_X11_findLeast_138 : decode cX11_findLeast 138 = .ok (.iand, 1) := by decide +kernel
theorem d_X11_findLeast_139 : decode cX11_findLeast 139 = .ok (.iconst 1, 1) := by decide +kernel
theorem d_X11_findLeast_140 : decode cX11_findLeast 140 = .ok (.if_icmp .ne 20, 3) := by decide +kernel
theorem d_X11_findLeast_143 : decode cX11_findLeast 143 = .ok (.aload_n 0, 1) := by decide +kernel
theorem d_X11_findLeast_144 : decode cX11_findLeast 144 = .ok (.getfield 37, 3) := by decide +kernel
theorem d_X11_findLeast_147 : decode cX11_findLeast 147 = .ok (.aload_n 0, 1) := by decide +kernel
theorem d_X11_findLeast_148 : decode cX11_findLeast 148 = .ok (.getfield 100, 3) := by decide +kernel
theorem d_X11_findLeast_151 : decode cX11_findLeast 151 = .ok (.iload 6, 2) := by decide +kernel
theorem d_X11_findLeast_153 : decode cX11_findLeast 153 = .ok (.iaload, 1) := by decide +kernel
theorem d_X11_findLeast_154 : decode cX11_findLeast 154 = .ok (.aaload, 1) := by decide +kernel
theorem d_X11_findLeast_155 : decode cX11_findLeast 155 = .ok (.iconst 1, 1) := by decide +kernel
theorem d_X11_findLeast_156 : decode cX11_findLeast 156 = .ok (.iaload, 1) := by decide +kernel
theorem d_X11_findLeast_157 : decode cX11_findLeast 157 = .ok (.goto 4, 3) := by decide +kernel
theorem d_X11_findLeast_160 : decode cX11_findLeast 160 = .ok (.iconst 0, 1) := by decide +kernel
theorem d_X11_findLeast_161 : decode cX11_findLeast 161 = .ok (.iadd, 1) := by decide +kernel
theorem d_X11_findLeast_162 : decode cX11_findLeast 162 = .ok (.iastore, 1) := by decide +kernel
theorem d_X11_findLeast_163 : decode cX11_findLeast 163 = .ok (.iinc 6 1, 3) := by decide +kernel
theorem d_X11_findLeast_166 : decode cX11_findLeast 166 = .ok (.goto (-48), 3) := by decide +kernel
theorem d_X11_findLeast_169 : decode cX11_findLeast 169 = .ok (.aload_n 0, 1) := by decide +kernel
theorem d_X11_findLeast_170 : decode cX11_findLeast 170 = .ok (.getfield 90, 3) := by decide +kernel
theorem d_X11_findLeast_173 : decode cX11_findLeast 173 = .ok (.iload 5, 2) := by decide +kernel
theorem d_X11_findLeast_175 : decode cX11_findLeast 175 = .ok (.iload 5, 2) := by decide +kernel
theorem d_X11_findLeast_177 : decode cX11_findLeast 177 = .ok (.ifCond .ne 7, 3) := by decide +kernel
theorem d_X11_findLeast_180 : decode cX11_findLeast 180 = .ok (.iconst 1, 1) := by decide +kernel
theorem d_X11_findLeast_181 : decode cX11_findLeast 181 = .ok (.goto 4, 3) := by decide +kernel
theorem d_X11_findLeast_184 : decode cX11_findLeast 184 = .ok (.iconst 0, 1) := by decide +kernel
theorem d_X11_findLeast_185 : decode cX11_findLeast 185 = .ok (.bastore, 1) := by decide +kernel
theorem d_X11_findLeast_186 : decode cX11_findLeast 186 = .ok (.iinc 5 1, 3) := by decide +kernel
theorem d_X11_findLeast_189 : decode cX11_findLeast 189 = .ok (.goto (-90), 3) := by decide +kernel
theorem d_X11_findLeast_192 : decode cX11_findLeast 192 = .ok (.iconst 0, 1) := by decide +kernel
theorem d_X11_findLeast_193 : decode cX11_findLeast 193 = .ok (.istore 5, 2) := by decide +kernel
theorem d_X11_findLeast_195 : decode cX11_findLeast 195 = .ok (.iload 5, 2) := by decide +kernel
theorem d_X11_findLeast_197 : decode cX11_findLeast 197 = .ok (.aload_n 0, 1) := by decide +kernel
theorem d_X11_findLeast_198 : decode cX11_findLeast 198 = .ok (.getfield 23, 3) := by decide +kernel
theorem d_X11_findLeast_201 : decode cX11_findLeast 201 = .ok (.iconst 0, 1) := by decide +kernel
theorem d_X11_findLeast_202 : decode cX11_findLeast 202 = .ok (.iaload, 1) := by decide +kernel
theorem d_X11_findLeast_203 : decode cX11_findLeast 203 = .ok (.if_icmp .ge 175, 3) := by decide +kernel
theorem d_X11_findLeast_206 : decode cX11_findLeast 206 = .ok (.iload_n 3, 1) := by decide +kernel
theorem d_X11_findLeast_207 : decode cX11_findLeast 207 = .ok (.iload 5, 2) := by decide +kernel
theorem d_X11_findLeast_209 : decode cX11_findLeast 209 = .ok (.ishr, 1) := by decide +kernel
theorem d_X11_findLeast_210 : decode cX11_findLeast 210 = .ok (.iconst 1, 1) := by decide +kernel
theorem d_X11_findLeast_211 : decode cX11_findLeast 211 = .ok (.iand, 1) := by decide +kernel
theorem d_X11_findLeast_212 : decode cX11_findLeast 212 = .ok (.ifCond .ne 6, 3) := by decide +kernel
theorem d_X11_findLeast_215 : decode cX11_findLeast 215 = .ok (.goto 157, 3) := by decide +kernel
theorem d_X11_findLeast_218 : decode cX11_findLeast 218 = .ok (.bipush 60, 2) := by decide +kernel
theorem d_X11_findLeast_220 : decode cX11_findLeast 220 = .ok (.aload_n 0, 1) := by decide +kernel
theorem d_X11_findLeast_221 : decode cX11_findLeast 221 = .ok (.getfield 31, 3) := by decide +kernel
theorem d_X11_findLeast_224 : decode cX11_findLeast 224 = .ok (.iload 5, 2) := by decide +kernel
theorem d_X11_findLeast_226 : decode cX11_findLeast 226 = .ok (.aaload, 1) := by decide +kernel
theorem d_X11_findLeast_227 : decode cX11_findLeast 227 = .ok (.iconst 1, 1) := by decide +kernel
theorem d_X11_findLeast_228 : decode cX11_findLeast 228 = .ok (.iaload, 1) := by decide +kernel
theorem d_X11_findLeast_229 : decode cX11_findLeast 229 = .ok (.imul, 1) := by decide +kernel
theorem d_X11_findLeast_230 : decode cX11_findLeast 230 = .ok (.aload_n 0, 1) := by decide +kernel
theorem d_X11_findLeast_231 : decode cX11_findLeast 231 = .ok (.getfield 43, 3) := by decide +kernel
theorem d_X11_findLeast_234 : decode cX11_findLeast 234 = .ok (.iload_n 1, 1) := by decide +kernel
theorem d_X11_findLeast_235 : decode cX11_findLeast 235 = .ok (.aaload, 1) := by decide +kernel
theorem d_X11_findLeast_236 : decode cX11_findLeast 236 = .ok (.iconst 0, 1) := by decide +kernel
theorem d_X11_findLeast_237 : decode cX11_findLeast 237 = .ok (.iaload, 1) := by decide +kernel
theorem d_X11_findLeast_238 : decode cX11_findLeast 238 = .ok (.iconst 1, 1) := by decide +kernel
theorem d_X11_findLeast_239 : decode cX11_findLeast 239 = .ok (.iadd, 1) := by decide +kernel
theorem d_X11_findLeast_240 : decode cX11_findLeast 240 = .ok (.idiv, 1) := by decide +kernel
theorem d_X11_findLeast_241 : decode cX11_findLeast 241 = .ok (.istore 6, 2) := by decide +kernel
theorem d_X11_findLeast_243 : decode cX11_findLeast 243 = .ok (.iconst 0, 1) := by decide +kernel
theorem d_X11_findLeast_244 : decode cX11_findLeast 244 = .ok (.istore 7, 2) := by decide +kernel
theorem d_X11_findLeast_246 : decode cX11_findLeast 246 = .ok (.iload 7, 2) := by decide +kernel
theorem d_X11_findLeast_248 : decode cX11_findLeast 248 = .ok (.iconst 1, 1) := by decide +kernel
theorem d_X11_findLeast_249 : decode cX11_findLeast 249 = .ok (.iload_n 2, 1) := by decide +kernel
theorem d_X11_findLeast_250 : decode cX11_findLeast 250 = .ok (.ishl, 1) := by decide +kernel
theorem d_X11_findLeast_251 : decode cX11_findLeast 251 = .ok (.if_icmp .ge 90, 3) := by decide +kernel
theorem d_X11_findLeast_254 : decode cX11_findLeast 254 = .ok (.aload_n 0, 1) := by decide +kernel
theorem d_X11_findLeast_255 : decode cX11_findLeast 255 = .ok (.getfield 94, 3) := by decide +kernel
theorem d_X11_findLeast_258 : decode cX11_findLeast 258 = .ok (.iload 7, 2) := by decide +kernel
theorem d_X11_findLeast_260 : decode cX11_findLeast 260 = .ok (.iconst 0, 1) := by decide +kernel
theorem d_X11_findLeast_261 : decode cX11_findLeast 261 = .ok (.bastore, 1) := by decide +kernel
theorem d_X11_findLeast_262 : decode cX11_findLeast 262 = .ok (.iload 7, 2) := by decide +kernel
theorem d_X11_findLeast_264 : decode cX11_findLeast 264 = .ok (.istore 8, 2) := by decide +kernel
theorem d_X11_findLeast_266 : decode cX11_findLeast 266 = .ok (.aload_n 0, 1) := by decide +kernel
theorem d_X11_findLeast_267 : decode cX11_findLeast 267 = .ok (.getfield 94, 3) := by decide +kernel
theorem d_X11_findLeast_270 : decode cX11_findLeast 270 = .ok (.iload 7, 2) := by decide +kernel
theorem d_X11_findLeast_272 : decode cX11_findLeast 272 = .ok (.aload_n 0, 1) := by decide +kernel
theorem d_X11_findLeast_273 : decode cX11_findLeast 273 = .ok (.getfield 94, 3) := by decide +kernel
theorem d_X11_findLeast_276 : decode cX11_findLeast 276 = .ok (.iload 7, 2) := by decide +kernel
theorem d_X11_findLeast_278 : decode cX11_findLeast 278 = .ok (.baload, 1) := by decide +kernel
theorem d_X11_findLeast_279 : decode cX11_findLeast 279 = .ok (.ifCond .ne 30, 3) := by decide +kernel
theorem d_X11_findLeast_282 : decode cX11_findLeast 282 = .ok (.aload_n 0, 1) := by decide +kernel
theorem d_X11_findLeast_283 : decode cX11_findLeast 283 = .ok (.getfield 97, 3) := by decide +kernel
theorem d_X11_findLeast_286 : decode cX11_findLeast 286 = .ok (.iload 8, 2) := by decide +kernel
theorem d_X11_findLeast_288 : decode cX11_findLeast 288 = .ok (.iaload, 1) := by decide +kernel
theorem d_X11_findLeast_289 : decode cX11_findLeast 289 = .ok (.iload 6, 2) := by decide +kernel
theorem d_X11_findLeast_291 : decode cX11_findLeast 291 = .ok (.if_icmp .gt 22, 3) := by decide +kernel
theorem d_X11_findLeast_294 : decode cX11_findLeast 294 = .ok (.aload_n 0, 1) := by decide +kernel
theorem d_X11_findLeast_295 : decode cX11_findLeast 295 = .ok (.getfield 90, 3) := by decide +kernel
theorem d_X11_findLeast_298 : decode cX11_findLeast 298 = .ok (.iload 7, 2) := by decide +kernel
theorem d_X11_findLeast_300 : decode cX11_findLeast 300 = .ok (.iload 8, 2) := by decide +kernel
theorem d_X11_findLeast_302 : decode cX11_findLeast 302 = .ok (.iconst (-1), 1) := by decide +kernel
theorem d_X11_findLeast_303 : decode cX11_findLeast 303 = .ok (.ixor, 1) := by decide +kernel
theorem d_X11_findLeast_304 : decode cX11_findLeast 304 = .ok (.iand, 1) := by decide +kernel
theorem d_X11_findLeast_305 : decode cX11_findLeast 305 = .ok (.baload, 1) := by decide +kernel
theorem d_X11_findLeast_306 : decode cX11_findLeast 306 = .ok (.ifCond .eq 7, 3) := by decide +kernel
theorem d_X11_findLeast_309 : decode cX11_findLeast 309 = .ok (.iconst 1, 1) := by decide +kernel
theorem d_X11_findLeast_310 : decode cX11_findLeast 310 = .ok (.goto 4, 3) := by decide +kernel
theorem d_X11_findLeast_313 : decode cX11_findLeast 313 = .ok (.iconst 0, 1) := by decide +kernel
theorem d_X11_findLeast_314 : decode cX11_findLeast 314 = .ok (.bastore, 1) := by decide +kernel
theorem d_X11_findLeast_315 : decode cX11_findLeast 315 = .ok (.iload 8, 2) := by decide +kernel
theorem d_X11_findLeast_317 : decode cX11_findLeast 317 = .ok (.ifCond .ne 6, 3) := by decide +kernel
theorem d_X11_findLeast_320 : decode cX11_findLeast 320 = .ok (.goto 15, 3) := by decide +kernel
theorem d_X11_findLeast_323 : decode cX11_findLeast 323 = .ok (.iload 8, 2) := by decide +kernel
theorem d_X11_findLeast_325 : decode cX11_findLeast 325 = .ok (.iconst 1, 1) := by decide +kernel
theorem d_X11_findLeast_326 : decode cX11_findLeast 326 = .ok (.isub, 1) := by decide +kernel
theorem d_X11_findLeast_327 : decode cX11_findLeast 327 = .ok (.iload 7, 2) := by decide +kernel
theorem d_X11_findLeast_329 : decode cX11_findLeast 329 = .ok (.iand, 1) := by decide +kernel
theorem d_X11_findLeast_330 : decode cX11_findLeast 330 = .ok (.istore 8, 2) := by decide +kernel
theorem d_X11_findLeast_332 : decode cX11_findLeast 332 = .ok (.goto (-66), 3) := by decide +kernel
theorem d_X11_findLeast_335 : decode cX11_findLeast 335 = .ok (.iinc 7 1, 3) := by decide +kernel
theorem d_X11_findLeast_338 : decode cX11_findLeast 338 = .ok (.goto (-92), 3) := by decide +kernel
theorem d_X11_findLeast_341 : decode cX11_findLeast 341 = .ok (.iconst 0, 1) := by decide +kernel
theorem d_X11_findLeast_342 : decode cX11_findLeast 342 = .ok (.istore 7, 2) := by decide +kernel
theorem d_X11_findLeast_344 : decode cX11_findLeast 344 = .ok (.iload 7, 2) := by decide +kernel
theorem d_X11_findLeast_346 : decode cX11_findLeast 346 = .ok (.iconst 1, 1) := by decide +kernel
theorem d_X11_findLeast_347 : decode cX11_findLeast 347 = .ok (.iload_n 2, 1) := by decide +kernel
theorem d_X11_findLeast_348 : decode cX11_findLeast 348 = .ok (.ishl, 1) := by decide +kernel
theorem d_X11_findLeast_349 : decode cX11_findLeast 349 = .ok (.if_icmp .ge 23, 3) := by decide +kernel
theorem d_X11_findLeast_352 : decode cX11_findLeast 352 = .ok (.aload_n 0, 1) := by decide +kernel
theorem d_X11_findLeast_353 : decode cX11_findLeast 353 = .ok (.getfield 90, 3) := by decide +kernel
theorem d_X11_findLeast_356 : decode cX11_findLeast 356 = .ok (.iload 7, 2) := by decide +kernel
theorem d_X11_findLeast_358 : decode cX11_findLeast 358 = .ok (.aload_n 0, 1) := by decide +kernel
theorem d_X11_findLeast_359 : decode cX11_findLeast 359 = .ok (.getfield 94, 3) := by decide +kernel
theorem d_X11_findLeast_362 : decode cX11_findLeast 362 = .ok (.iload 7, 2) := by decide +kernel
theorem d_X11_findLeast_364 : decode cX11_findLeast 364 = .ok (.baload, 1) := by decide +kernel
theorem d_X11_findLeast_365 : decode cX11_findLeast 365 = .ok (.bastore, 1) := by decide +kernel
theorem d_X11_findLeast_366 : decode cX11_findLeast 366 = .ok (.iinc 7 1, 3) := by decide +kernel
theorem d_X11_findLeast_369 : decode cX11_findLeast 369 = .ok (.goto (-25), 3) := by decide +kernel
theorem d_X11_findLeast_372 : decode cX11_findLeast 372 = .ok (.iinc 5 1, 3) := by decide +kernel
theorem d_X11_findLeast_375 : decode cX11_findLeast 375 = .ok (.goto (-180), 3) := by decide +kernel
theorem d_X11_findLeast_378 : decode cX11_findLeast 378 = .ok (.aload_n 0, 1) := by decide +kernel
theorem d_X11_findLeast_379 : decode cX11_findLeast 379 = .ok (.iconst (-1), 1) := by decide +kernel
theorem d_X11_findLeast_380 : decode cX11_findLeast 380 = .ok (.putfield 281, 3) := by decide +kernel
theorem d_X11_findLeast_383 : decode cX11_findLeast 383 = .ok (.aload_n 0, 1) := by decide +kernel
theorem d_X11_findLeast_384 : decode cX11_findLeast 384 = .ok (.iconst (-1), 1) := by decide +kernel
theorem d_X11_findLeast_385 : decode cX11_findLeast 385 = .ok (.putfield 284, 3) := by decide +kernel
theorem d_X11_findLeast_388 : decode cX11_findLeast 388 = .ok (.iconst 0, 1) := by decide +kernel
theorem d_X11_findLeast_389 : decode cX11_findLeast 389 = .ok (.istore 5, 2) := by decide +kernel
theorem d_X11_findLeast_391 : decode cX11_findLeast 391 = .ok (.iload 5, 2) := by decide +kernel
theorem d_X11_findLeast_393 : decode cX11_findLeast 393 = .ok (.iconst 1, 1) := by decide +kernel
theorem d_X11_findLeast_394 : decode cX11_findLeast 394 = .ok (.iload_n 2, 1) := by decide +kernel
theorem d_X11_findLeast_395 : decode cX11_findLeast 395 = .ok (.ishl, 1) := by decide +kernel
theorem d_X11_findLeast_396 : decode cX11_findLeast 396 = .ok (.if_icmp .ge 73, 3) := by decide +kernel
theorem d_X11_findLeast_399 : decode cX11_findLeast 399 = .ok (.aload_n 0, 1) := by decide +kernel
theorem d_X11_findLeast_400 : decode cX11_findLeast 400 = .ok (.getfield 90, 3) := by decide +kernel
theorem d_X11_findLeast_403 : decode cX11_findLeast 403 = .ok (.iload 5, 2) := by decide +kernel
theorem d_X11_findLeast_405 : decode cX11_findLeast 405 = .ok (.baload, 1) := by decide +kernel
theorem d_X11_findLeast_406 : decode cX11_findLeast 406 = .ok (.ifCond .eq 57, 3) := by decide +kernel
theorem d_X11_findLeast_409 : decode cX11_findLeast 409 = .ok (.aload_n 0, 1) := by decide +kernel
theorem d_X11_findLeast_410 : decode cX11_findLeast 410 = .ok (.getfield 97, 3) := by decide +kernel
theorem d_X11_findLeast_413 : decode cX11_findLeast 413 = .ok (.iload 5, 2) := by decide +kernel
theorem d_X11_findLeast_415 : decode cX11_findLeast 415 = .ok (.iaload, 1) := by decide +kernel
theorem d_X11_findLeast_416 : decode cX11_findLeast 416 = .ok (.iload 4, 2) := by decide +kernel
theorem d_X11_findLeast_418 : decode cX11_findLeast 418 = .ok (.if_icmp .le 45, 3) := by decide +kernel
theorem d_X11_findLeast_421 : decode cX11_findLeast 421 = .ok (.aload_n 0, 1) := by decide +kernel
theorem d_X11_findLeast_422 : decode cX11_findLeast 422 = .ok (.getfield 281, 3) := by decide +kernel
theorem d_X11_findLeast_425 : decode cX11_findLeast 425 = .ok (.iconst (-1), 1) := by decide +kernel
theorem d_X11_findLeast_426 : decode cX11_findLeast 426 = .ok (.if_icmp .eq 20, 3) := by decide +kernel
theorem d_X11_findLeast_429 : decode cX11_findLeast 429 = .ok (.aload_n 0, 1) := by decide +kernel
theorem d_X11_findLeast_430 : decode cX11_findLeast 430 = .ok (.getfield 97, 3) := by decide +kernel
theorem d_X11_findLeast_433 : decode cX11_findLeast 433 = .ok (.iload 5, 2) := by decide +kernel
theorem d_X11_findLeast_435 : decode cX11_findLeast 435 = .ok (.iaload, 1) := by decide +kernel
theorem d_X11_findLeast_436 : decode cX11_findLeast 436 = .ok (.aload_n 0, 1) := by decide +kernel
theorem d_X11_findLeast_437 : decode cX11_findLeast 437 = .ok (.getfield 281, 3) := by decide +kernel
theorem d_X11_findLeast_440 : decode cX11_findLeast 440 = .ok (.if_icmp .lt 6, 3) := by decide +kernel
theorem d_X11_findLeast_443 : decode cX11_findLeast 443 = .ok (.goto 20, 3) := by decide +kernel
theorem d_X11_findLeast_446 : decode cX11_findLeast 446 = .ok (.aload_n 0, 1) := by decide +kernel
theorem d_X11_findLeast_447 : decode cX11_findLeast 447 = .ok (.aload_n 0, 1) := by decide +kernel
theorem d_X11_findLeast_448 : decode cX11_findLeast 448 = .ok (.getfield 97, 3) := by decide +kernel
theorem d_X11_findLeast_451 : decode cX11_findLeast 451 = .ok (.iload 5, 2) := by decide +kernel
theorem d_X11_findLeast_453 : decode cX11_findLeast 453 = .ok (.iaload, 1) := by decide +kernel
theorem d_X11_findLeast_454 : decode cX11_findLeast 454 = .ok (.putfield 281, 3) := by decide +kernel
theorem d_X11_findLeast_457 : decode cX11_findLeast 457 = .ok (.aload_n 0, 1) := by decide +kernel
theorem d_X11_findLeast_458 : decode cX11_findLeast 458 = .ok (.iload 5, 2) := by decide +kernel
theorem d_X11_findLeast_460 : decode cX11_findLeast 460 = .ok (.putfield 284, 3) := by decide +kernel
theorem d_X11_findLeast_463 : decode cX11_findLeast 463 = .ok (.iinc 5 1, 3) := by decide +kernel
theorem d_X11_findLeast_466 : decode cX11_findLeast 466 = .ok (.goto (-75), 3) := by decide +kernel
theorem d_X11_findLeast_469 : decode cX11_findLeast 469 = .ok (.return_, 1) := by decide +kernel
set_option maxRecDepth 100000 in
theorem L_X11_findLeast {p : Program} {l : Launch} {e : Env} {s : State} {m : MethodId} {args : Array Value} {below : List Frame} {meth : Method} {c : Code} {D : va_G} {ca : Nat → ClassId} {ad sx sy : Nat → Nat} {A : Nat → Prop} {Q : QT} (C0 : CX p s m args meth c cX11_findLeast 9 yX11_findLeast.cls D ca ad A) (hE : EX sx sy A s s.heap) (hr : meth.sig.returnType = none) (hno : ∀ x ∈ c.exceptionTable.toList, False) : R_X11_findLeast (JW p l e { frames := 15, cells := 0, slots := 6 * 0, locals := 312 } s m args below meth c 9 D ca ad A (vx_MQ below (Qn D ca ad A Q) (Qx D ca ad A Q) args s 0 (6 * 0) A) gz gz true) Q := ⟨s_ic C0 (d_X11_findLeast_0) hgz (s_isn C0 (d_X11_findLeast_1) hgz (s_aln C0 (d_X11_findLeast_2) hgz (s_gr C0 (j := 17) (c0 := 11) rfl gX11 (by decide) rfl rfl wg1218 (d_X11_findLeast_3) hgz (s_iln C0 (d_X11_findLeast_6) hgz (s_aa C0 (by decide) (by decide) rfl rfl (d_X11_findLeast_7) hgz (s_ic C0 (d_X11_findLeast_8) hgz (s_ia C0 (d_X11_findLeast_9) hgz (s_isn C0 (d_X11_findLeast_10) hgz (s_aln C0 (d_X11_findLeast_11) hgz (s_callV C0 hE (c_X11_goesAll l) wg1520 wg1517 wg1519 ws109 wg12 ⟨by decide, by decide⟩ (by decide +kernel) (c0 := 11) rfl ⟨by decide, by decide⟩ ⟨by decide, by decide⟩ (d_X11_findLeast_12) (fun x hx => (hno x hx).elim) ⟨by decide, by decide⟩ ⟨by decide, by decide⟩ (s_aln C0 (d_X11_findLeast_15) hgz (s_gr C0 (j := 34) (c0 := 11) rfl gX11 (by decide) rfl rfl wg1235 (d_X11_findLeast_16) hgz (s_iln C0 (d_X11_findLeast_19) hgz (s_aa C0 (by decide) (by decide) rfl rfl (d_X11_findLeast_20) hgz (s_ic C0 (d_X11_findLeast_21) hgz (s_aa C0 (by decide) (by decide) rfl rfl (d_X11_findLeast_22) hgz (s_ic C0 (d_X11_findLeast_23) hgz (s_ia C0 (d_X11_findLeast_24) hgz (s_is C0 (d_X11_findLeast_25) hgz (s_ic C0 (d_X11_findLeast_27) hgz (s_is C0 (d_X11_findLeast_28) hgz (fun _ _ _ h => h)) (okn rfl)))) (okn rfl))) (okn rfl)))))))))) (okn rfl))))))) (okn rfl),
  s_il C0 (d_X11_findLeast_30) hgz (s_aln C0 (d_X11_findLeast_32) hgz (s_gr C0 (j := 11) (c0 := 11) rfl gX11 (by decide) rfl rfl wg1212 (d_X11_findLeast_33) hgz (s_ic C0 (d_X11_findLeast_36) hgz (s_ia C0 (d_X11_findLeast_37) hgz (s_cge C0 (d_X11_findLeast_38) (by decide) hgz hgz (fun _ _ _ h => h) (s_iln C0 (d_X11_findLeast_41) hgz (s_bi C0 (d_X11_findLeast_42) hgz (s_cge C0 (d_X11_findLeast_44) (by decide) hgz hgz (fun _ _ _ h => h) (s_aln C0 (d_X11_findLeast_47) hgz (s_gr C0 (j := 15) (c0 := 11) rfl gX11 (by decide) rfl rfl wg1216 (d_X11_findLeast_48) hgz (s_il C0 (d_X11_findLeast_51) hgz (s_aa C0 (by decide) (by decide) rfl rfl (d_X11_findLeast_53) hgz (s_ic C0 (d_X11_findLeast_54) hgz (s_ia C0 (d_X11_findLeast_55) hgz (s_ic C0 (d_X11_findLeast_56) hgz (s_cne C0 (d_X11_findLeast_57) (by decide) hgz hgz (fun _ _ _ h => h) (s_iln C0 (d_X11_findLeast_60) hgz (s_aln C0 (d_X11_findLeast_61) hgz (s_gr C0 (j := 15) (c0 := 11) rfl gX11 (by decide) rfl rfl wg1216 (d_X11_findLeast_62) hgz (s_il C0 (d_X11_findLeast_65) hgz (s_aa C0 (by decide) (by decide) rfl rfl (d_X11_findLeast_67) hgz (s_ic C0 (d_X11_findLeast_68) hgz (s_ia C0 (d_X11_findLeast_69) hgz (s_shr C0 (d_X11_findLeast_70) hgz (s_ic C0 (d_X11_findLeast_71) hgz (s_and C0 (d_X11_findLeast_72) hgz (s_zne C0 (d_X11_findLeast_73) (by decide) hgz hgz (fun _ _ _ h => h) (s_goto C0 (tgt := 90) (d_X11_findLeast_76) (by decide) hgz (fun _ _ _ h => h)))) (okn rfl)))) (okn rfl)))))))) (okn rfl))) (okn rfl))))))) (okn rfl) rfl)))) (okn rfl)))),
  s_aln C0 (d_X11_findLeast_79) hgz (s_gr C0 (j := 42) (c0 := 11) rfl gX11 (by decide) rfl rfl wg1243 (d_X11_findLeast_80) hgz (s_iln C0 (d_X11_findLeast_83) hgz (s_il C0 (d_X11_findLeast_84) hgz (s_iax C0 (d_X11_findLeast_86) hgz (s_inc C0 (d_X11_findLeast_87) hgz (fun _ _ _ h => h)))))),
  s_inc C0 (d_X11_findLeast_90) hgz (s_goto C0 (tgt := 30) (d_X11_findLeast_93) (by decide) hgz (fun _ _ _ h => h)),
  s_ic C0 (d_X11_findLeast_96) hgz (s_is C0 (d_X11_findLeast_97) hgz (fun _ _ _ h => h)) (okn rfl),
  s_il C0 (d_X11_findLeast_99) hgz (s_ic C0 (d_X11_findLeast_101) hgz (s_iln C0 (d_X11_findLeast_102) hgz (s_shl C0 (d_X11_findLeast_103) hgz (s_cge C0 (d_X11_findLeast_104) (by decide) hgz hgz (fun _ _ _ h => h) (s_aln C0 (d_X11_findLeast_107) hgz (s_gr C0 (j := 41) (c0 := 11) rfl gX11 (by decide) rfl rfl wg1242 (d_X11_findLeast_108) hgz (s_il C0 (d_X11_findLeast_111) hgz (s_ic C0 (d_X11_findLeast_113) hgz (s_iax C0 (d_X11_findLeast_114) hgz (s_ic C0 (d_X11_findLeast_115) hgz (s_is C0 (d_X11_findLeast_116) hgz (fun _ _ _ h => h)) (okn rfl))) (okn rfl)))))))) (okn rfl)),
  s_il C0 (d_X11_findLeast_118) hgz (s_iln C0 (d_X11_findLeast_120) hgz (s_cge C0 (d_X11_findLeast_121) (by decide) hgz hgz (fun _ _ _ h => h) (s_aln C0 (d_X11_findLeast_124) hgz (s_gr C0 (j := 41) (c0 := 11) rfl gX11 (by decide) rfl rfl wg1242 (d_X11_findLeast_125) hgz (s_il C0 (d_X11_findLeast_128) hgz (s_dup2 C0 (d_X11_findLeast_130) hgz (s_ia C0 (d_X11_findLeast_131) hgz (s_il C0 (d_X11_findLeast_132) hgz (s_il C0 (d_X11_findLeast_134) hgz (s_shr C0 (d_X11_findLeast_136) hgz (s_ic C0 (d_X11_findLeast_137) hgz (s_and C0 (d_X11_findLeast_138) hgz (s_ic C0 (d_X11_findLeast_139) hgz (s_cne C0 (d_X11_findLeast_140) (by decide) hgz hgz (fun _ _ _ h => h) (s_aln C0 (d_X11_findLeast_143) hgz (s_gr C0 (j := 15) (c0 := 11) rfl gX11 (by decide) rfl rfl wg1216 (d_X11_findLeast_144) hgz (s_aln C0 (d_X11_findLeast_147) hgz (s_gr C0 (j := 42) (c0 := 11) rfl gX11 (by decide) rfl rfl wg1243 (d_X11_findLeast_148) hgz (s_il C0 (d_X11_findLeast_151) hgz (s_ia C0 (d_X11_findLeast_153) hgz (s_aa C0 (by decide) (by decide) rfl rfl (d_X11_findLeast_154) hgz (s_ic C0 (d_X11_findLeast_155) hgz (s_ia C0 (d_X11_findLeast_156) hgz (s_goto C0 (tgt := 161) (d_X11_findLeast_157) (by decide) hgz (fun _ _ _ h => h))) (okn rfl)))))))))) (okn rfl))) (okn rfl)))))))))))),
  s_ic C0 (d_X11_findLeast_160) hgz (fun _ _ _ h => h) (okn rfl),
  s_add C0 (d_X11_findLeast_161) hgz (s_iax C0 (d_X11_findLeast_162) hgz (s_inc C0 (d_X11_findLeast_163) hgz (s_goto C0 (tgt := 118) (d_X11_findLeast_166) (by decide) hgz (fun _ _ _ h => h)))),
  s_aln C0 (d_X11_findLeast_169) hgz (s_gr C0 (j := 39) (c0 := 11) rfl gX11 (by decide) rfl rfl wg1240 (d_X11_findLeast_170) hgz (s_il C0 (d_X11_findLeast_173) hgz (s_il C0 (d_X11_findLeast_175) hgz (s_zne C0 (d_X11_findLeast_177) (by decide) hgz hgz (fun _ _ _ h => h) (s_ic C0 (d_X11_findLeast_180) hgz (s_goto C0 (tgt := 185) (d_X11_findLeast_181) (by decide) hgz (fun _ _ _ h => h)) (okn rfl)))))),
  s_ic C0 (d_X11_findLeast_184) hgz (fun _ _ _ h => h) (okn rfl),
  s_zax C0 (d_X11_findLeast_185) hgz (s_inc C0 (d_X11_findLeast_186) hgz (s_goto C0 (tgt := 99) (d_X11_findLeast_189) (by decide) hgz (fun _ _ _ h => h))),
  s_ic C0 (d_X11_findLeast_192) hgz (s_is C0 (d_X11_findLeast_193) hgz (fun _ _ _ h => h)) (okn rfl),
  s_il C0 (d_X11_findLeast_195) hgz (s_aln C0 (d_X11_findLeast_197) hgz (s_gr C0 (j := 11) (c0 := 11) rfl gX11 (by decide) rfl rfl wg1212 (d_X11_findLeast_198) hgz (s_ic C0 (d_X11_findLeast_201) hgz (s_ia C0 (d_X11_findLeast_202) hgz (s_cge C0 (d_X11_findLeast_203) (by decide) hgz hgz (fun _ _ _ h => h) (s_iln C0 (d_X11_findLeast_206) hgz (s_il C0 (d_X11_findLeast_207) hgz (s_shr C0 (d_X11_findLeast_209) hgz (s_ic C0 (d_X11_findLeast_210) hgz (s_and C0 (d_X11_findLeast_211) hgz (s_zne C0 (d_X11_findLeast_212) (by decide) hgz hgz (fun _ _ _ h => h) (s_goto C0 (tgt := 372) (d_X11_findLeast_215) (by decide) hgz (fun _ _ _ h => h)))) (okn rfl))))))) (okn rfl)))),
  s_bi C0 (d_X11_findLeast_218) hgz (s_aln C0 (d_X11_findLeast_220) hgz (s_gr C0 (j := 13) (c0 := 11) rfl gX11 (by decide) rfl rfl wg1214 (d_X11_findLeast_221) hgz (s_il C0 (d_X11_findLeast_224) hgz (s_aa C0 (by decide) (by decide) rfl rfl (d_X11_findLeast_226) hgz (s_ic C0 (d_X11_findLeast_227) hgz (s_ia C0 (d_X11_findLeast_228) hgz (s_mul C0 (d_X11_findLeast_229) hgz (s_aln C0 (d_X11_findLeast_230) hgz (s_gr C0 (j := 17) (c0 := 11) rfl gX11 (by decide) rfl rfl wg1218 (d_X11_findLeast_231) hgz (s_iln C0 (d_X11_findLeast_234) hgz (s_aa C0 (by decide) (by decide) rfl rfl (d_X11_findLeast_235) hgz (s_ic C0 (d_X11_findLeast_236) hgz (s_ia C0 (d_X11_findLeast_237) hgz (s_ic C0 (d_X11_findLeast_238) hgz (s_add C0 (d_X11_findLeast_239) hgz (s_div C0 (d_X11_findLeast_240) hgz (s_is C0 (d_X11_findLeast_241) hgz (s_ic C0 (d_X11_findLeast_243) hgz (s_is C0 (d_X11_findLeast_244) hgz (fun _ _ _ h => h)) (okn rfl))))) (okn rfl))) (okn rfl)))))))) (okn rfl)))))) (okn rfl) rfl,
  s_il C0 (d_X11_findLeast_246) hgz (s_ic C0 (d_X11_findLeast_248) hgz (s_iln C0 (d_X11_findLeast_249) hgz (s_shl C0 (d_X11_findLeast_250) hgz (s_cge C0 (d_X11_findLeast_251) (by decide) hgz hgz (fun _ _ _ h => h) (s_aln C0 (d_X11_findLeast_254) hgz (s_gr C0 (j := 40) (c0 := 11) rfl gX11 (by decide) rfl rfl wg1241 (d_X11_findLeast_255) hgz (s_il C0 (d_X11_findLeast_258) hgz (s_ic C0 (d_X11_findLeast_260) hgz (s_zax C0 (d_X11_findLeast_261) hgz (s_il C0 (d_X11_findLeast_262) hgz (s_is C0 (d_X11_findLeast_264) hgz (fun _ _ _ h => h)))) (okn rfl)))))))) (okn rfl)),
  s_aln C0 (d_X11_findLeast_266) hgz (s_gr C0 (j := 40) (c0 := 11) rfl gX11 (by decide) rfl rfl wg1241 (d_X11_findLeast_267) hgz (s_il C0 (d_X11_findLeast_270) hgz (s_aln C0 (d_X11_findLeast_272) hgz (s_gr C0 (j := 40) (c0 := 11) rfl gX11 (by decide) rfl rfl wg1241 (d_X11_findLeast_273) hgz (s_il C0 (d_X11_findLeast_276) hgz (s_za C0 (d_X11_findLeast_278) hgz (s_zne C0 (d_X11_findLeast_279) (by decide) hgz hgz (fun _ _ _ h => h) (s_aln C0 (d_X11_findLeast_282) hgz (s_gr C0 (j := 41) (c0 := 11) rfl gX11 (by decide) rfl rfl wg1242 (d_X11_findLeast_283) hgz (s_il C0 (d_X11_findLeast_286) hgz (s_ia C0 (d_X11_findLeast_288) hgz (s_il C0 (d_X11_findLeast_289) hgz (s_cgt C0 (d_X11_findLeast_291) (by decide) hgz hgz (fun _ _ _ h => h) (s_aln C0 (d_X11_findLeast_294) hgz (s_gr C0 (j := 39) (c0 := 11) rfl gX11 (by decide) rfl rfl wg1240 (d_X11_findLeast_295) hgz (s_il C0 (d_X11_findLeast_298) hgz (s_il C0 (d_X11_findLeast_300) hgz (s_ic C0 (d_X11_findLeast_302) hgz (s_xor C0 (d_X11_findLeast_303) hgz (s_and C0 (d_X11_findLeast_304) hgz (s_za C0 (d_X11_findLeast_305) hgz (s_zeq C0 (d_X11_findLeast_306) (by decide) hgz hgz (fun _ _ _ h => h) (fun _ _ _ h => h))))) (okn rfl))))))))))))))))))),
  s_ic C0 (d_X11_findLeast_309) hgz (s_goto C0 (tgt := 314) (d_X11_findLeast_310) (by decide) hgz (fun _ _ _ h => h)) (okn rfl),
  s_ic C0 (d_X11_findLeast_313) hgz (fun _ _ _ h => h) (okn rfl),
  s_zax C0 (d_X11_findLeast_314) hgz (s_il C0 (d_X11_findLeast_315) hgz (s_zne C0 (d_X11_findLeast_317) (by decide) hgz hgz (fun _ _ _ h => h) (s_goto C0 (tgt := 335) (d_X11_findLeast_320) (by decide) hgz (fun _ _ _ h => h)))),
  s_il C0 (d_X11_findLeast_323) hgz (s_ic C0 (d_X11_findLeast_325) hgz (s_sub C0 (d_X11_findLeast_326) hgz (s_il C0 (d_X11_findLeast_327) hgz (s_and C0 (d_X11_findLeast_329) hgz (s_is C0 (d_X11_findLeast_330) hgz (s_goto C0 (tgt := 266) (d_X11_findLeast_332) (by decide) hgz (fun _ _ _ h => h)))))) (okn rfl)),
  s_inc C0 (d_X11_findLeast_335) hgz (s_goto C0 (tgt := 246) (d_X11_findLeast_338) (by decide) hgz (fun _ _ _ h => h)),
  s_ic C0 (d_X11_findLeast_341) hgz (s_is C0 (d_X11_findLeast_342) hgz (fun _ _ _ h => h)) (okn rfl),
  s_il C0 (d_X11_findLeast_344) hgz (s_ic C0 (d_X11_findLeast_346) hgz (s_iln C0 (d_X11_findLeast_347) hgz (s_shl C0 (d_X11_findLeast_348) hgz (s_cge C0 (d_X11_findLeast_349) (by decide) hgz hgz (fun _ _ _ h => h) (s_aln C0 (d_X11_findLeast_352) hgz (s_gr C0 (j := 39) (c0 := 11) rfl gX11 (by decide) rfl rfl wg1240 (d_X11_findLeast_353) hgz (s_il C0 (d_X11_findLeast_356) hgz (s_aln C0 (d_X11_findLeast_358) hgz (s_gr C0 (j := 40) (c0 := 11) rfl gX11 (by decide) rfl rfl wg1241 (d_X11_findLeast_359) hgz (s_il C0 (d_X11_findLeast_362) hgz (s_za C0 (d_X11_findLeast_364) hgz (s_zax C0 (d_X11_findLeast_365) hgz (s_inc C0 (d_X11_findLeast_366) hgz (s_goto C0 (tgt := 344) (d_X11_findLeast_369) (by decide) hgz (fun _ _ _ h => h)))))))))))))) (okn rfl)),
  s_inc C0 (d_X11_findLeast_372) hgz (s_goto C0 (tgt := 195) (d_X11_findLeast_375) (by decide) hgz (fun _ _ _ h => h)),
  s_aln C0 (d_X11_findLeast_378) hgz (s_ic C0 (d_X11_findLeast_379) hgz (s_pi C0 (j := 43) (c0 := 11) rfl gX11 tyX11_ok nmX11 (by decide) rfl (by decide) rfl rfl wg1244 (d_X11_findLeast_380) hgz (s_aln C0 (d_X11_findLeast_383) hgz (s_ic C0 (d_X11_findLeast_384) hgz (s_pi C0 (j := 44) (c0 := 11) rfl gX11 tyX11_ok nmX11 (by decide) rfl (by decide) rfl rfl wg1245 (d_X11_findLeast_385) hgz (s_ic C0 (d_X11_findLeast_388) hgz (s_is C0 (d_X11_findLeast_389) hgz (fun _ _ _ h => h)) (okn rfl))) (okn rfl)))) (okn rfl)),
  s_il C0 (d_X11_findLeast_391) hgz (s_ic C0 (d_X11_findLeast_393) hgz (s_iln C0 (d_X11_findLeast_394) hgz (s_shl C0 (d_X11_findLeast_395) hgz (s_cge C0 (d_X11_findLeast_396) (by decide) hgz hgz (fun _ _ _ h => h) (s_aln C0 (d_X11_findLeast_399) hgz (s_gr C0 (j := 39) (c0 := 11) rfl gX11 (by decide) rfl rfl wg1240 (d_X11_findLeast_400) hgz (s_il C0 (d_X11_findLeast_403) hgz (s_za C0 (d_X11_findLeast_405) hgz (s_zeq C0 (d_X11_findLeast_406) (by decide) hgz hgz (fun _ _ _ h => h) (s_aln C0 (d_X11_findLeast_409) hgz (s_gr C0 (j := 41) (c0 := 11) rfl gX11 (by decide) rfl rfl wg1242 (d_X11_findLeast_410) hgz (s_il C0 (d_X11_findLeast_413) hgz (s_ia C0 (d_X11_findLeast_415) hgz (s_il C0 (d_X11_findLeast_416) hgz (s_cle C0 (d_X11_findLeast_418) (by decide) hgz hgz (fun _ _ _ h => h) (s_aln C0 (d_X11_findLeast_421) hgz (s_gi C0 (j := 43) (c0 := 11) rfl gX11 (by decide) rfl (by decide) wg1244 (d_X11_findLeast_422) hgz (s_ic C0 (d_X11_findLeast_425) hgz (s_ceq C0 (d_X11_findLeast_426) (by decide) hgz hgz (fun _ _ _ h => h) (s_aln C0 (d_X11_findLeast_429) hgz (s_gr C0 (j := 41) (c0 := 11) rfl gX11 (by decide) rfl rfl wg1242 (d_X11_findLeast_430) hgz (s_il C0 (d_X11_findLeast_433) hgz (s_ia C0 (d_X11_findLeast_435) hgz (s_aln C0 (d_X11_findLeast_436) hgz (s_gi C0 (j := 43) (c0 := 11) rfl gX11 (by decide) rfl (by decide) wg1244 (d_X11_findLeast_437) hgz (s_clt C0 (d_X11_findLeast_440) (by decide) hgz hgz (fun _ _ _ h => h) (s_goto C0 (tgt := 463) (d_X11_findLeast_443) (by decide) hgz (fun _ _ _ h => h)))))))))) (okn rfl)))))))))))))))))) (okn rfl)),
  s_aln C0 (d_X11_findLeast_446) hgz (s_aln C0 (d_X11_findLeast_447) hgz (s_gr C0 (j := 41) (c0 := 11) rfl gX11 (by decide) rfl rfl wg1242 (d_X11_findLeast_448) hgz (s_il C0 (d_X11_findLeast_451) hgz (s_ia C0 (d_X11_findLeast_453) hgz (s_pi C0 (j := 43) (c0 := 11) rfl gX11 tyX11_ok nmX11 (by decide) rfl (by decide) rfl rfl wg1244 (d_X11_findLeast_454) hgz (s_aln C0 (d_X11_findLeast_457) hgz (s_il C0 (d_X11_findLeast_458) hgz (s_pi C0 (j := 44) (c0 := 11) rfl gX11 tyX11_ok nmX11 (by decide) rfl (by decide) rfl rfl wg1245 (d_X11_findLeast_460) hgz (fun _ _ _ h => h))))))))),
  s_inc C0 (d_X11_findLeast_463) hgz (s_goto C0 (tgt := 391) (d_X11_findLeast_466) (by decide) hgz (fun _ _ _ h => h)),
  s_rv C0 hr (d_X11_findLeast_469) ⟨by decide, by decide⟩⟩
theorem c_X11_findLeast (l : Launch) : Ctr l yX11_findLeast cX11_findLeast 9 none 15 312 0 (fun sx => (nf G_X11_findLeast)) := ctr_of (by decide) gz gz ⟨rfl, rfl⟩ (fun p e s m args below meth c D ca ad sx sy A Q as M C0 hE hr hno hF => P_X11_findLeast (L_X11_findLeast C0 hE hr hno) hF)
