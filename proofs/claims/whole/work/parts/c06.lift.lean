theorem wg1203 : Cond.fieldLink "WeighedHallModel" 112 "WeighedHallModel" "size" "I" ∈ GT := gt_mem 1323 (by decide +kernel) rfl
theorem wg1209 : Cond.fieldLink "WeighedHallModel" 13 "WeighedHallModel" "fed" "[I" ∈ GT := gt_mem 1329 (by decide +kernel) rfl
theorem d_X11_byteAt_0 : decode cX11_byteAt 0 = .ok (.iload_n 1, 1) := by decide +kernel
theorem d_X11_byteAt_1 : decode cX11_byteAt 1 = .ok (.aload_n 0, 1) := by decide +kernel
theorem d_X11_byteAt_2 : decode cX11_byteAt 2 = .ok (.getfield 112, 3) := by decide +kernel
theorem d_X11_byteAt_5 : decode cX11_byteAt 5 = .ok (.if_icmp .lt 7, 3) := by decide +kernel
theorem d_X11_byteAt_8 : decode cX11_byteAt 8 = .ok (.iconst (-1), 1) := by decide +kernel
theorem d_X11_byteAt_9 : decode cX11_byteAt 9 = .ok (.goto 9, 3) := by decide +kernel
theorem d_X11_byteAt_12 : decode cX11_byteAt 12 = .ok (.aload_n 0, 1) := by decide +kernel
theorem d_X11_byteAt_13 : decode cX11_byteAt 13 = .ok (.getfield 13, 3) := by decide +kernel
theorem d_X11_byteAt_16 : decode cX11_byteAt 16 = .ok (.iload_n 1, 1) := by decide +kernel
theorem d_X11_byteAt_17 : decode cX11_byteAt 17 = .ok (.iaload, 1) := by decide +kernel
theorem d_X11_byteAt_18 : decode cX11_byteAt 18 = .ok (.ireturn, 1) := by decide +kernel
set_option maxRecDepth 100000 in
theorem L_X11_byteAt {p : Program} {l : Launch} {e : Env} {s : State} {m : MethodId} {args : Array Value} {below : List Frame} {meth : Method} {c : Code} {D : va_G} {ca : Nat → ClassId} {ad sx sy : Nat → Nat} {A : Nat → Prop} {Q : QT} (C0 : CX p s m args meth c cX11_byteAt 2 yX11_byteAt.cls D ca ad A) (hE : EX sx sy A s s.heap) (hr : meth.sig.returnType = (some .int)) (hno : ∀ x ∈ c.exceptionTable.toList, False) : R_X11_byteAt (JW p l e { frames := 10, cells := 0, slots := 6 * 0, locals := 200 } s m args below meth c 2 D ca ad A (vx_MQ below (Qn D ca ad A Q) (Qx D ca ad A Q) args s 0 (6 * 0) A) gz gz true) Q := ⟨s_iln C0 (d_X11_byteAt_0) hgz (s_aln C0 (d_X11_byteAt_1) hgz (s_gi C0 (j := 2) (c0 := 11) rfl gX11 (by decide) rfl (by decide) wg1203 (d_X11_byteAt_2) hgz (s_clt C0 (d_X11_byteAt_5) (by decide) hgz hgz (fun _ _ _ h => h) (s_ic C0 (d_X11_byteAt_8) hgz (s_goto C0 (tgt := 18) (d_X11_byteAt_9) (by decide) hgz (fun _ _ _ h => h)) (okn rfl))))),
  s_aln C0 (d_X11_byteAt_12) hgz (s_gr C0 (j := 8) (c0 := 11) rfl gX11 (by decide) rfl rfl wg1209 (d_X11_byteAt_13) hgz (s_iln C0 (d_X11_byteAt_16) hgz (s_ia C0 (d_X11_byteAt_17) hgz (fun _ _ _ h => h)))),
  s_ri C0 hr (d_X11_byteAt_18) ⟨by decide, by decide⟩⟩
theorem c_X11_byteAt (l : Launch) : Ctr l yX11_byteAt cX11_byteAt 2 (some .int) 10 200 0 (fun sx => (nf G_X11_byteAt)) := ctr_of (by decide) gz gz ⟨rfl, rfl⟩ (fun p e s m args below meth c D ca ad sx sy A Q as M C0 hE hr hno hF => P_X11_byteAt (L_X11_byteAt C0 hE hr hno) hF)
theorem wg1205 : Cond.fieldLink "WeighedHallModel" 115 "WeighedHallModel" "at" "I" ∈ GT := gt_mem 1325 (by decide +kernel) rfl
theorem wg1371 : Cond.code ⟨"WeighedHallModel", "byteAt", "(I)I"⟩ prog_13_method_6_code 2 (Option.some .int) ∈ GT := gt_mem 1491 (by decide +kernel) rfl
theorem wg1368 : Cond.methodLink "WeighedHallModel" 118 ⟨"WeighedHallModel", "byteAt", "(I)I"⟩ ∈ GT := gt_mem 1488 (by decide +kernel) rfl
theorem wg1370 : Cond.instanceMethod ⟨"WeighedHallModel", "byteAt", "(I)I"⟩ ∈ GT := gt_mem 1490 (by decide +kernel) rfl
theorem ws85 : Cond.selects "WeighedHallModel" ⟨"WeighedHallModel", "byteAt", "(I)I"⟩ ⟨"WeighedHallModel", "byteAt", "(I)I"⟩ ∈ GT := gt_mem 85 (by decide +kernel) rfl
theorem d_X11_blanks_0 : decode cX11_blanks 0 = .ok (.aload_n 0, 1) := by decide +kernel
theorem d_X11_blanks_1 : decode cX11_blanks 1 = .ok (.aload_n 0, 1) := by decide +kernel
theorem d_X11_blanks_2 : decode cX11_blanks 2 = .ok (.getfield 115, 3) := by decide +kernel
theorem d_X11_blanks_5 : decode cX11_blanks 5 = .ok (.invokevirtual 118, 3) := by decide +kernel
theorem d_X11_blanks_8 : decode cX11_blanks 8 = .ok (.bipush 32, 2) := by decide +kernel
theorem d_X11_blanks_10 : decode cX11_blanks 10 = .ok (.if_icmp .ne 16, 3) := by decide +kernel
theorem d_X11_blanks_13 : decode cX11_blanks 13 = .ok (.aload_n 0, 1) := by decide +kernel
theorem d_X11_blanks_14 : decode cX11_blanks 14 = .ok (.dup, 1) := by decide +kernel
theorem d_X11_blanks_15 : decode cX11_blanks 15 = .ok (.getfield 115, 3) := by decide +kernel
theorem d_X11_blanks_18 : decode cX11_blanks 18 = .ok (.iconst 1, 1) := by decide +kernel
theorem d_X11_blanks_19 : decode cX11_blanks 19 = .ok (.iadd, 1) := by decide +kernel
theorem d_X11_blanks_20 : decode cX11_blanks 20 = .ok (.putfield 115, 3) := by decide +kernel
theorem d_X11_blanks_23 : decode cX11_blanks 23 = .ok (.goto (-23), 3) := by decide +kernel
theorem d_X11_blanks_26 : decode cX11_blanks 26 = .ok (.return_, 1) := by decide +kernel
set_option maxRecDepth 100000 in
theorem L_X11_blanks {p : Program} {l : Launch} {e : Env} {s : State} {m : MethodId} {args : Array Value} {below : List Frame} {meth : Method} {c : Code} {D : va_G} {ca : Nat → ClassId} {ad sx sy : Nat → Nat} {A : Nat → Prop} {Q : QT} (C0 : CX p s m args meth c cX11_blanks 1 yX11_blanks.cls D ca ad A) (hE : EX sx sy A s s.heap) (hr : meth.sig.returnType = none) (hno : ∀ x ∈ c.exceptionTable.toList, False) : R_X11_blanks (JW p l e { frames := 11, cells := 0, slots := 6 * 0, locals := 221 } s m args below meth c 1 D ca ad A (vx_MQ below (Qn D ca ad A Q) (Qx D ca ad A Q) args s 0 (6 * 0) A) gz gz true) Q := ⟨s_aln C0 (d_X11_blanks_0) hgz (s_aln C0 (d_X11_blanks_1) hgz (s_gi C0 (j := 4) (c0 := 11) rfl gX11 (by decide) rfl (by decide) wg1205 (d_X11_blanks_2) hgz (s_callV C0 hE (c_X11_byteAt l) wg1371 wg1368 wg1370 ws85 wg12 ⟨by decide, by decide⟩ (by decide +kernel) (c0 := 11) rfl ⟨by decide, by decide⟩ ⟨by decide, by decide⟩ (d_X11_blanks_5) (fun x hx => (hno x hx).elim) ⟨by decide, by decide⟩ ⟨by decide, by decide⟩ (s_bi C0 (d_X11_blanks_8) hgz (s_cne C0 (d_X11_blanks_10) (by decide) hgz hgz (fun _ _ _ h => h) (s_aln C0 (d_X11_blanks_13) hgz (s_dup C0 (d_X11_blanks_14) hgz (s_gi C0 (j := 4) (c0 := 11) rfl gX11 (by decide) rfl (by decide) wg1205 (d_X11_blanks_15) hgz (s_ic C0 (d_X11_blanks_18) hgz (s_add C0 (d_X11_blanks_19) hgz (s_pi C0 (j := 4) (c0 := 11) rfl gX11 tyX11_ok nmX11 (by decide) rfl (by decide) rfl rfl wg1205 (d_X11_blanks_20) hgz (s_goto C0 (tgt := 0) (d_X11_blanks_23) (by decide) hgz (fun _ _ _ h => h)))) (okn rfl)))))) (okn rfl) rfl)))),
  s_rv C0 hr (d_X11_blanks_26) ⟨by decide, by decide⟩⟩
theorem c_X11_blanks (l : Launch) : Ctr l yX11_blanks cX11_blanks 1 none 11 221 0 (fun sx => (nf G_X11_blanks)) := ctr_of (by decide) gz gz ⟨rfl, rfl⟩ (fun p e s m args below meth c D ca ad sx sy A Q as M C0 hE hr hno hF => P_X11_blanks (L_X11_blanks C0 hE hr hno) hF)
theorem d_X11_in_0 : decode cX11_in 0 = .ok (.iload_n 0, 1) := by decide +kernel
theorem d_X11_in_1 : decode cX11_in 1 = .ok (.iload_n 1, 1) := by decide +kernel
theorem d_X11_in_2 : decode cX11_in 2 = .ok (.if_icmp .lt 12, 3) := by decide +kernel
theorem d_X11_in_5 : decode cX11_in 5 = .ok (.iload_n 0, 1) := by decide +kernel
theorem d_X11_in_6 : decode cX11_in 6 = .ok (.iload_n 2, 1) := by decide +kernel
theorem d_X11_in_7 : decode cX11_in 7 = .ok (.if_icmp .gt 7, 3) := by decide +kernel
theorem d_X11_in_10 : decode cX11_in 10 = .ok (.iconst 1, 1) := by decide +kernel
theorem d_X11_in_11 : decode cX11_in 11 = .ok (.goto 4, 3) := by decide +kernel
theorem d_X11_in_14 : decode cX11_in 14 = .ok (.iconst 0, 1) := by decide +kernel
theorem d_X11_in_15 : decode cX11_in 15 = .ok (.ireturn, 1) := by decide +kernel
set_option maxRecDepth 100000 in
theorem L_X11_in {p : Program} {l : Launch} {e : Env} {s : State} {m : MethodId} {args : Array Value} {below : List Frame} {meth : Method} {c : Code} {D : va_G} {ca : Nat → ClassId} {ad sx sy : Nat → Nat} {A : Nat → Prop} {Q : QT} (C0 : CX p s m args meth c cX11_in 3 yX11_in.cls D ca ad A) (hE : EX sx sy A s s.heap) (hr : meth.sig.returnType = (some .boolean)) (hno : ∀ x ∈ c.exceptionTable.toList, False) : R_X11_in (JW p l e { frames := 10, cells := 0, slots := 6 * 0, locals := 200 } s m args below meth c 3 D ca ad A (vx_MQ below (Qn D ca ad A Q) (Qx D ca ad A Q) args s 0 (6 * 0) A) gz gz true) Q := ⟨s_iln C0 (d_X11_in_0) hgz (s_iln C0 (d_X11_in_1) hgz (s_clt C0 (d_X11_in_2) (by decide) hgz hgz (fun _ _ _ h => h) (s_iln C0 (d_X11_in_5) hgz (s_iln C0 (d_X11_in_6) hgz (s_cgt C0 (d_X11_in_7) (by decide) hgz hgz (fun _ _ _ h => h) (s_ic C0 (d_X11_in_10) hgz (s_goto C0 (tgt := 15) (d_X11_in_11) (by decide) hgz (fun _ _ _ h => h)) (okn rfl))))))),
  s_ic C0 (d_X11_in_14) hgz (fun _ _ _ h => h) (okn rfl),
  s_rz C0 hr (d_X11_in_15) ⟨by decide, by decide⟩⟩
theorem c_X11_in (l : Launch) : Ctr l yX11_in cX11_in 3 (some .boolean) 10 200 0 (fun sx => (nf G_X11_in)) := ctr_of (by decide) gz gz ⟨rfl, rfl⟩ (fun p e s m args below meth c D ca ad sx sy A Q as M C0 hE hr hno hF => P_X11_in (L_X11_in C0 hE hr hno) hF)
theorem wg1355 : Cond.code ⟨"WeighedHallModel", "in", "(III)Z"⟩ prog_13_method_4_code 3 (Option.some .boolean) ∈ GT := gt_mem 1475 (by decide +kernel) rfl
theorem wg1353 : Cond.methodLink "WeighedHallModel" 140 ⟨"WeighedHallModel", "in", "(III)Z"⟩ ∈ GT := gt_mem 1473 (by decide +kernel) rfl
theorem wg1354 : Cond.static ⟨"WeighedHallModel", "in", "(III)Z"⟩ ∈ GT := gt_mem 1474 (by decide +kernel) rfl
theorem wg1359 : Cond.code ⟨"WeighedHallModel", "bad", "(ZII)Z"⟩ prog_13_method_3_code 4 (Option.some .boolean) ∈ GT := gt_mem 1479 (by decide +kernel) rfl
theorem wg1356 : Cond.methodLink "WeighedHallModel" 188 ⟨"WeighedHallModel", "bad", "(ZII)Z"⟩ ∈ GT := gt_mem 1476 (by decide +kernel) rfl
theorem wg1358 : Cond.instanceMethod ⟨"WeighedHallModel", "bad", "(ZII)Z"⟩ ∈ GT := gt_mem 1478 (by decide +kernel) rfl
theorem ws82 : Cond.selects "WeighedHallModel" ⟨"WeighedHallModel", "bad", "(ZII)Z"⟩ ⟨"WeighedHallModel", "bad", "(ZII)Z"⟩ ∈ GT := gt_mem 82 (by decide +kernel) rfl
theorem wg1246 : Cond.fieldLink "WeighedHallModel" 103 "WeighedHallModel" "line" "[I" ∈ GT := gt_mem 1366 (by decide +kernel) rfl
theorem d_X11_bring_0 : decode cX11_bring 0 = .ok (.aload_n 0, 1) := by decide +kernel
theorem d_X11_bring_1 : decode cX11_bring 1 = .ok (.iconst 0, 1) := by decide +kernel
theorem d_X11_bring_2 : decode cX11_bring 2 = .ok (.putfield 106, 3) := by decide +kernel
theorem d_X11_bring_5 : decode cX11_bring 5 = .ok (.aload_n 0, 1) := by decide +kernel
theorem d_X11_bring_6 : decode cX11_bring 6 = .ok (.iload_n 1, 1) := by decide +kernel
theorem d_X11_bring_7 : decode cX11_bring 7 = .ok (.iconst 0, 1) := by decide +kernel
theorem d_X11_bring_8 : decode cX11_bring 8 = .ok (.aload_n 0, 1) := by decide +kernel
theorem d_X11_bring_9 : decode cX11_bring 9 = .ok (.getfield 23, 3) := by decide +kernel
theorem d_X11_bring_12 : decode cX11_bring 12 = .ok (.iconst 2, 1) := by decide +kernel
theorem d_X11_bring_13 : decode cX11_bring 13 = .ok (.iaload, 1) := by decide +kernel
theorem d_X11_bring_14 : decode cX11_bring 14 = .ok (.iconst 1, 1) := by decide +kernel
theorem d_X11_bring_15 : decode cX11_bring 15 = .ok (.isub, 1) := by decide +kernel
theorem d_X11_bring_16 : decode cX11_bring 16 = .ok (.invokestatic 140, 3) := by decide +kernel
theorem d_X11_bring_19 : decode cX11_bring 19 = .ok (.ifCond .ne 7, 3) := by decide +kernel
theorem d_X11_bring_22 : decode cX11_bring 22 = .ok (.iconst 1, 1) := by decide +kernel
theorem d_X11_bring_23 : decode cX11_bring 23 = .ok (.goto 4, 3) := by decide +kernel
theorem d_X11_bring_26 : decode cX11_bring 26 = .ok (.iconst 0, 1) := by decide +kernel
theorem d_X11_bring_27 : decode cX11_bring 27 = .ok (.iconst 1, 1) := by decide +kernel
theorem d_X11_bring_28 : decode cX11_bring 28 = .ok (.iconst 0, 1) := by decide +kernel
theorem d_X11_bring_29 : decode cX11_bring 29 = .ok (.invokevirtual 188, 3) := by decide +kernel
theorem d_X11_bring_32 : decode cX11_bring 32 = .ok (.ifCond .ne 28, 3) := by decide +kernel
theorem d_X11_bring_35 : decode cX11_bring 35 = .ok (.aload_n 0, 1) := by decide +kernel
theorem d_X11_bring_36 : decode cX11_bring 36 = .ok (.iload_n 2, 1) := by decide +kernel
theorem d_X11_bring_37 : decode cX11_bring 37 = .ok (.iconst 0, 1) := by decide +kernel
theorem d_X11_bring_38 : decode cX11_bring 38 = .ok (.sipush 999, 3) := by decide +kernel
theorem d_X11_bring_41 : decode cX11_bring 41 = .ok (.invokestatic 140, 3) := by decide +kernel
theorem d_X11_bring_44 : decode cX11_bring 44 = .ok (.ifCond .ne 7, 3) := by decide +kernel
theorem d_X11_bring_47 : decode cX11_bring 47 = .ok (.iconst 1, 1) := by decide +kernel
theorem d_X11_bring_48 : decode cX11_bring 48 = .ok (.goto 4, 3) := by decide +kernel
theorem d_X11_bring_51 : decode cX11_bring 51 = .ok (.iconst 0, 1) := by decide +kernel
theorem d_X11_bring_52 : decode cX11_bring 52 = .ok (.iconst 2, 1) := by decide +kernel
theorem d_X11_bring_53 : decode cX11_bring 53 = .ok (.iconst 1, 1) := by decide +kernel
theorem d_X11_bring_54 : decode cX11_bring 54 = .ok (.invokevirtual 188, 3) := by decide +kernel
theorem d_X11_bring_57 : decode cX11_bring 57 = .ok (.ifCond .eq 5, 3) := by decide +kernel
theorem d_X11_bring_60 : decode cX11_bring 60 = .ok (.iconst 0, 1) := by decide +kernel
theorem d_X11_bring_61 : decode cX11_bring 61 = .ok (.ireturn, 1) := by decide +kernel
theorem d_X11_bring_62 : decode cX11_bring 62 = .ok (.iconst 0, 1) := by decide +kernel
theorem d_X11_bring_63 : decode cX11_bring 63 = .ok (.istore_n 3, 1) := by decide +kernel
theorem d_X11_bring_64 : decode cX11_bring 64 = .ok (.iconst 0, 1) := by decide +kernel
theorem d_X11_bring_65 : decode cX11_bring 65 = .ok (.istore 4, 2) := by decide +kernel
theorem d_X11_bring_67 : decode cX11_bring 67 = .ok (.iconst 0, 1) := by decide +kernel
theorem d_X11_bring_68 : decode cX11_bring 68 = .ok (.istore 5, 2) := by decide +kernel
theorem d_X11_bring_70 : decode cX11_bring 70 = .ok (.iload 5, 2) := by decide +kernel
theorem d_X11_bring_72 : decode cX11_bring 72 = .ok (.bipush 100, 2) := by decide +kernel
theorem d_X11_bring_74 : decode cX11_bring 74 = .ok (.if_icmp .ge 70, 3) := by decide +kernel
theorem d_X11_bring_77 : decode cX11_bring 77 = .ok (.iconst 0, 1) := by decide +kernel
theorem d_X11_bring_78 : decode cX11_bring 78 = .ok (.istore 6, 2) := by decide +kernel
theorem d_X11_bring_80 : decode cX11_bring 80 = .ok (.iload 6, 2) := by decide +kernel
theorem d_X11_bring_82 : decode cX11_bring 82 = .ok (.aload_n 0, 1) := by decide +kernel
theorem d_X11_bring_83 : decode cX11_bring 83 = .ok (.getfield 23, 3) := by decide +kernel
theorem d_X11_bring_86 : decode cX11_bring 86 = .ok (.iconst 1, 1) := by decide +kernel
theorem d_X11_bring_87 : decode cX11_bring 87 = .ok (.iaload, 1) := by decide +kernel
theorem d_X11_bring_88 : decode cX11_bring 88 = .ok (.if_icmp .ge 50, 3) := by decide +kernel
theorem d_X11_bring_91 : decode cX11_bring 91 = .ok (.aload_n 0, 1) := by decide +kernel
theorem d_X11_bring_92 : decode cX11_bring 92 = .ok (.getfield 37, 3) := by decide +kernel
theorem d_X11_bring_95 : decode cX11_bring 95 = .ok (.iload 6, 2) := by decide +kernel
theorem d_X11_bring_97 : decode cX11_bring 97 = .ok (.aaload, 1) := by decide +kernel
theorem d_X11_bring_98 : decode cX11_bring 98 = .ok (.iconst 2, 1) := by decide +kernel
theorem d_X11_bring_99 : decode cX11_bring 99 = .ok (.iaload, 1) := by decide +kernel
theorem d_X11_bring_100 : decode cX11_bring 100 = .ok (.iload_n 1, 1) := by decide +kernel
theorem d_X11_bring_101 : decode cX11_bring 101 = .ok (.if_icmp .ne 31, 3) := by decide +kernel
theorem d_X11_bring_104 : decode cX11_bring 104 = .ok (.aload_n 0, 1) := by decide +kernel
theorem d_X11_bring_105 : decode cX11_bring 105 = .ok (.getfield 37, 3) := by decide +kernel
theorem d_X11_bring_108 : decode cX11_bring 108 = .ok (.iload 6, 2) := by decide +kernel
theorem d_X11_bring_110 : decode cX11_bring 110 = .ok (.aaload, 1) := by decide +kernel
theorem d_X11_bring_111 : decode cX11_bring 111 = .ok (.iconst 3, 1) := by decide +kernel
theorem d_X11_bring_112 : decode cX11_bring 112 = .ok (.iaload, 1) := by decide +kernel
theorem d_X11_bring_113 : decode cX11_bring 113 = .ok (.iload 5, 2) := by decide +kernel
theorem d_X11_bring_115 : decode cX11_bring 115 = .ok (.if_icmp .eq 6, 3) := by decide +kernel
theorem d_X11_bring_118 : decode cX11_bring 118 = .ok (.goto 14, 3) := by decide +kernel
theorem d_X11_bring_121 : decode cX11_bring 121 = .ok (.aload_n 0, 1) := by decide +kernel
theorem d_X11_bring_122 : decode cX11_bring 122 = .ok (.getfield 103, 3) := by decide +kernel
theorem d_X11_bring_125 : decode cX11_bring 125 = .ok (.iload_n 3, 1) := by decide +kernel
theorem d_X11_bring_126 : decode cX11_bring 126 = .ok (.iload 6, 2) := by decide +kernel
theorem d_X11_bring_128 : decode cX11_bring 128 = .ok (.iastore, 1) := by decide +kernel
theorem d_X11_bring_129 : decode cX11_bring 129 = .ok (.iinc 3 1, 3) := by decide +kernel
theorem d_X11_bring_132 : decode cX11_bring 132 = .ok (.iinc 6 1, 3) := by decide +kernel
theorem d_X11_bring_135 : decode cX11_bring 135 = .ok (.goto (-55), 3) := by decide +kernel
theorem d_X11_bring_138 : decode cX11_bring 138 = .ok (.iinc 5 1, 3) := by decide +kernel
theorem d_X11_bring_141 : decode cX11_bring 141 = .ok (.goto (-71), 3) := by decide +kernel
theorem d_X11_bring_144 : decode cX11_bring 144 = .ok (.iconst 0, 1) := by decide +kernel
theorem d_X11_bring_145 : decode cX11_bring 145 = .ok (.istore 5, 2) := by decide +kernel
theorem d_X11_bring_147 : decode cX11_bring 147 = .ok (.iload 5, 2) := by decide +kernel
theorem d_X11_bring_149 : decode cX11_bring 149 = .ok (.iconst 1, 1) := by decide +kernel
theorem d_X11_bring_150 : decode cX11_bring 150 = .ok (.iload_n 3, 1) := by decide +kernel
theorem d_X11_bring_151 : decode cX11_bring 151 = .ok (.ishl, 1) := by decide +kernel
theorem d_X11_bring_152 : decode cX11_bring 152 = .ok (.if_icmp .ge 122, 3) := by decide +kernel
theorem d_X11_bring_155 : decode cX11_bring 155 = .ok (.iconst 0, 1) := by decide +kernel
theorem d_X11_bring_156 : decode cX11_bring 156 = .ok (.istore 6, 2) := by decide +kernel
theorem d_X11_bring_158 : decode cX11_bring 158 = .ok (.iconst 0, 1) := by decide +kernel
theorem d_X11_bring_159 : decode cX11_bring 159 = .ok (.istore 7, 2) := by decide +kernel
theorem d_X11_bring_161 : decode cX11_bring 161 = .ok (.iconst 0, 1) := by decide +kernel
theorem d_X11_bring_162 : decode cX11_bring 162 = .ok (.istore 8, 2) := by decide +kernel
theorem d_X11_bring_164 : decode cX11_bring 164 = .ok (.iload 8, 2) := by decide +kernel
theorem d_X11_bring_166 : decode cX11_bring 166 = .ok (.iload_n 3, 1) := by decide +kernel
theorem d_X11_bring_167 : decode cX11_bring 167 = .ok (.if_icmp .ge 79, 3) := by decide +kernel
theorem d_X11_bring_170 : decode cX11_bring 170 = .ok (.iload 5, 2) := by decide +kernel
theorem d_X11_bring_172 : decode cX11_bring 172 = .ok (.iload 8, 2) := by decide +kernel
theorem d_X11_bring_174 : decode cX11_bring 174 = .ok (.ishr, 1) := by decide +kernel
theorem d_X11_bring_175 : decode cX11_bring 175 = .ok (.iconst 1, 1) := by decide +kernel
theorem d_X11_bring_176 : decode cX11_bring 176 = .ok (.iand, 1) := by decide +kernel
theorem d_X11_bring_177 : decode cX11_bring 177 = .ok (.ifCond .ne 6, 3) := by decide +kernel
theorem d_X11_bring_180 : decode cX11_bring 180 = .ok (.goto 60, 3) := by decide +kernel
theorem d_X11_bring_183 : decode cX11_bring 183 = .ok (.aload_n 0, 1) := by decide +kernel
theorem d_X11_bring_184 : decode cX11_bring 184 = .ok (.getfield 37, 3) := by decide +kernel
theorem d_X11_bring_187 : decode cX11_bring 187 = .ok (.aload_n 0, 1) := by decide +kernel
theorem d_X11_bring_188 : decode cX11_bring 188 = .ok (.getfield 103, 3) := by decide +kernel
theorem d_X11_bring_191 : decode cX11_bring 191 = .ok (.iload 8, 2) := by decide +kernel
theorem d_X11_bring_193 : decode cX11_bring 193 = .ok (.iaload, 1) := by decide +kernel
theorem d_X11_bring_194 : decode cX11_bring 194 = .ok (.aaload, 1) := by decide +kernel
theorem d_X11_bring_195 : decode cX11_bring 195 = .ok (.astore 9, 2) := by decide +kernel
theorem d_X11_bring_197 : decode cX11_bring 197 = .ok (.iload 6, 2) := by decide +kernel
theorem d_X11_bring_199 : decode cX11_bring 199 = .ok (.aload 9, 2) := by decide +kernel
theorem d_X11_bring_201 : decode cX11_bring 201 = .ok (.iconst 3, 1) := by decide +kernel
theorem d_X11_bring_202 : decode cX11_bring 202 = .ok (.iaload, 1) := by decide +kernel
theorem d_X11_bring_203 : decode cX11_bring 203 = .ok (.if_icmp .le 8, 3) := by decide +kernel
theorem d_X11_bring_206 : decode cX11_bring 206 = .ok (.iload 6, 2) := by decide +kernel
theorem d_X11_bring_208 : decode cX11_bring 208 = .ok (.goto 7, 3) := by decide +kernel
theorem d_X11_bring_211 : decode cX11_bring 211 = .ok (.aload 9, 2) := by decide +kernel
theorem d_X11_bring_213 : decode cX11_bring 213 = .ok (.iconst 3, 1) := by decide +kernel
theorem d_X11_bring_214 : decode cX11_bring 214 = .ok (.iaload, 1) := by decide +kernel
theorem d_X11_bring_215 : decode cX11_bring 215 = .ok (.aload 9, 2) := by decide +kernel
theorem d_X11_bring_217 : decode cX11_bring 217 = .ok (.iconst 1, 1) := by decide +kernel
theorem d_X11_bring_218 : decode cX11_bring 218 = .ok (.iaload, 1) := by decide +kernel
theorem d_X11_bring_219 : decode cX11_bring 219 = .ok (.aload_n 0, 1) := by decide +kernel
theorem d_X11_bring_220 : decode cX11_bring 220 = .ok (.getfield 55, 3) := by decide +kernel
theorem d_X11_bring_223 : decode cX11_bring 223 = .ok (.iload_n 1, 1) := by decide +kernel
theorem d_X11_bring_224 : decode cX11_bring 224 = .ok (.iaload, 1) := by decide +kernel
theorem d_X11_bring_225 : decode cX11_bring 225 = .ok (.invokestatic 226, 3) := by decide +kernel
theorem d_X11_bring_228 : decode cX11_bring 228 = .ok (.iadd, 1) := by decide +kernel
theorem d_X11_bring_229 : decode cX11_bring 229 = .ok (.istore 6, 2) := by decide +kernel
theorem d_X11_bring_231 : decode cX11_bring 231 = .ok (.iload 7, 2) := by decide +kernel
theorem d_X11_bring_233 : decode cX11_bring 233 = .ok (.aload 9, 2) := by decide +kernel
theorem d_X11_bring_235 : decode cX11_bring 235 = .ok (.iconst 1, 1) := by decide +kernel
theorem d_X11_bring_236 : decode cX11_bring 236 = .ok (.iaload, 1) := by decide +kernel
theorem d_X11_bring_237 : decode cX11_bring 237 = .ok (.iadd, 1) := by decide +kernel
theorem d_X11_bring_238 : decode cX11_bring 238 = .ok (.istore 7, 2) := by decide +kernel
theorem d_X11_bring_240 : decode cX11_bring 240 = .ok (.iinc 8 1, 3) := by decide +kernel
theorem d_X11_bring_243 : decode cX11_bring 243 = .ok (.goto (-79), 3) := by decide +kernel
theorem d_X11_bring_246 : decode cX11_bring 246 = .ok (.iload 6, 2) := by decide +kernel
theorem d_X11_bring_248 : decode cX11_bring 248 = .ok (.iload_n 2, 1) := by decide +kernel
theorem d_X11_bring_249 : decode cX11_bring 249 = .ok (.if_icmp .gt 15, 3) := by decide +kernel
theorem d_X11_bring_252 : decode cX11_bring 252 = .ok (.iload 7, 2) := by decide +kernel
theorem d_X11_bring_254 : decode cX11_bring 254 = .ok (.iload 4, 2) := by decide +kernel
theorem d_X11_bring_256 : decode cX11_bring 256 = .ok (.if_icmp .le 8, 3) := by decide +kernel
theorem d_X11_bring_259 : decode cX11_bring 259 = .ok (.iload 7, 2) := by decide +kernel
theorem d_X11_bring_261 : decode cX11_bring 261 = .ok (.goto 5, 3) := by decide +kernel
theorem d_X11_bring_264 : decode cX11_bring 264 = .ok (.iload 4, 2) := by decide +kernel
theorem d_X11_bring_266 : decode cX11_bring 266 = .ok (.istore 4, 2) := by decide +kernel
theorem d_X11_bring_268 : decode cX11_bring 268 = .ok (.iinc 5 1, 3) := by decide +kernel
theorem d_X11_bring_271 : decode cX11_bring 271 = .ok (.goto (-124), 3) := by decide +kernel
theorem d_X11_bring_274 : decode cX11_bring 274 = .ok (.iload 4, 2) := by decide +kernel
theorem d_X11_bring_276 : decode cX11_bring 276 = .ok (.ireturn, 1) := by decide +kernel
set_option maxRecDepth 100000 in
theorem L_X11_bring {p : Program} {l : Launch} {e : Env} {s : State} {m : MethodId} {args : Array Value} {below : List Frame} {meth : Method} {c : Code} {D : va_G} {ca : Nat → ClassId} {ad sx sy : Nat → Nat} {A : Nat → Prop} {Q : QT} (C0 : CX p s m args meth c cX11_bring 10 yX11_bring.cls D ca ad A) (hE : EX sx sy A s s.heap) (hr : meth.sig.returnType = (some .int)) (hno : ∀ x ∈ c.exceptionTable.toList, False) : R_X11_bring (JW p l e { frames := 11, cells := 0, slots := 6 * 0, locals := 223 } s m args below meth c 10 D ca ad A (vx_MQ below (Qn D ca ad A Q) (Qx D ca ad A Q) args s 0 (6 * 0) A) gz gz true) Q := ⟨s_aln C0 (d_X11_bring_0) hgz (s_ic C0 (d_X11_bring_1) hgz (s_pi C0 (j := 0) (c0 := 11) rfl gX11 tyX11_ok nmX11 (by decide) rfl (by decide) rfl rfl wg1201 (d_X11_bring_2) hgz (s_aln C0 (d_X11_bring_5) hgz (s_iln C0 (d_X11_bring_6) hgz (s_ic C0 (d_X11_bring_7) hgz (s_aln C0 (d_X11_bring_8) hgz (s_gr C0 (j := 11) (c0 := 11) rfl gX11 (by decide) rfl rfl wg1212 (d_X11_bring_9) hgz (s_ic C0 (d_X11_bring_12) hgz (s_ia C0 (d_X11_bring_13) hgz (s_ic C0 (d_X11_bring_14) hgz (s_sub C0 (d_X11_bring_15) hgz (s_callS C0 hE (c_X11_in l) wg1355 wg1353 wg1354 wg12 ⟨by decide, by decide⟩ (by decide +kernel) ⟨by decide, by decide⟩ ⟨by decide, by decide⟩ (d_X11_bring_16) (fun x hx => (hno x hx).elim) ⟨by decide, by decide⟩ ⟨by decide, by decide⟩ (s_zne C0 (d_X11_bring_19) (by decide) hgz hgz (fun _ _ _ h => h) (s_ic C0 (d_X11_bring_22) hgz (s_goto C0 (tgt := 27) (d_X11_bring_23) (by decide) hgz (fun _ _ _ h => h)) (okn rfl))))) (okn rfl))) (okn rfl)))) (okn rfl))))) (okn rfl)),
  s_ic C0 (d_X11_bring_26) hgz (fun _ _ _ h => h) (okn rfl),
  s_ic C0 (d_X11_bring_27) hgz (s_ic C0 (d_X11_bring_28) hgz (s_callV C0 hE (c_X11_bad l) wg1359 wg1356 wg1358 ws82 wg12 ⟨by decide, by decide⟩ (by decide +kernel) (c0 := 11) rfl ⟨by decide, by decide⟩ ⟨by decide, by decide⟩ (d_X11_bring_29) (fun x hx => (hno x hx).elim) ⟨by decide, by decide⟩ ⟨by decide, by decide⟩ (s_zne C0 (d_X11_bring_32) (by decide) hgz hgz (fun _ _ _ h => h) (s_aln C0 (d_X11_bring_35) hgz (s_iln C0 (d_X11_bring_36) hgz (s_ic C0 (d_X11_bring_37) hgz (s_si C0 (d_X11_bring_38) hgz (s_callS C0 hE (c_X11_in l) wg1355 wg1353 wg1354 wg12 ⟨by decide, by decide⟩ (by decide +kernel) ⟨by decide, by decide⟩ ⟨by decide, by decide⟩ (d_X11_bring_41) (fun x hx => (hno x hx).elim) ⟨by decide, by decide⟩ ⟨by decide, by decide⟩ (s_zne C0 (d_X11_bring_44) (by decide) hgz hgz (fun _ _ _ h => h) (s_ic C0 (d_X11_bring_47) hgz (s_goto C0 (tgt := 52) (d_X11_bring_48) (by decide) hgz (fun _ _ _ h => h)) (okn rfl)))) (okn rfl) rfl) (okn rfl)))))) (okn rfl)) (okn rfl),
  s_ic C0 (d_X11_bring_51) hgz (fun _ _ _ h => h) (okn rfl),
  s_ic C0 (d_X11_bring_52) hgz (s_ic C0 (d_X11_bring_53) hgz (s_callV C0 hE (c_X11_bad l) wg1359 wg1356 wg1358 ws82 wg12 ⟨by decide, by decide⟩ (by decide +kernel) (c0 := 11) rfl ⟨by decide, by decide⟩ ⟨by decide, by decide⟩ (d_X11_bring_54) (fun x hx => (hno x hx).elim) ⟨by decide, by decide⟩ ⟨by decide, by decide⟩ (s_zeq C0 (d_X11_bring_57) (by decide) hgz hgz (fun _ _ _ h => h) (fun _ _ _ h => h))) (okn rfl)) (okn rfl),
  s_ic C0 (d_X11_bring_60) hgz (s_ri C0 hr (d_X11_bring_61) ⟨by decide, by decide⟩) (okn rfl),
  s_ic C0 (d_X11_bring_62) hgz (s_isn C0 (d_X11_bring_63) hgz (s_ic C0 (d_X11_bring_64) hgz (s_is C0 (d_X11_bring_65) hgz (s_ic C0 (d_X11_bring_67) hgz (s_is C0 (d_X11_bring_68) hgz (fun _ _ _ h => h)) (okn rfl))) (okn rfl))) (okn rfl),
  s_il C0 (d_X11_bring_70) hgz (s_bi C0 (d_X11_bring_72) hgz (s_cge C0 (d_X11_bring_74) (by decide) hgz hgz (fun _ _ _ h => h) (s_ic C0 (d_X11_bring_77) hgz (s_is C0 (d_X11_bring_78) hgz (fun _ _ _ h => h)) (okn rfl))) (okn rfl) rfl),
  s_il C0 (d_X11_bring_80) hgz (s_aln C0 (d_X11_bring_82) hgz (s_gr C0 (j := 11) (c0 := 11) rfl gX11 (by decide) rfl rfl wg1212 (d_X11_bring_83) hgz (s_ic C0 (d_X11_bring_86) hgz (s_ia C0 (d_X11_bring_87) hgz (s_cge C0 (d_X11_bring_88) (by decide) hgz hgz (fun _ _ _ h => h) (s_aln C0 (d_X11_bring_91) hgz (s_gr C0 (j := 15) (c0 := 11) rfl gX11 (by decide) rfl rfl wg1216 (d_X11_bring_92) hgz (s_il C0 (d_X11_bring_95) hgz (s_aa C0 (by decide) (by decide) rfl rfl (d_X11_bring_97) hgz (s_ic C0 (d_X11_bring_98) hgz (s_ia C0 (d_X11_bring_99) hgz (s_iln C0 (d_X11_bring_100) hgz (s_cne C0 (d_X11_bring_101) (by decide) hgz hgz (fun _ _ _ h => h) (s_aln C0 (d_X11_bring_104) hgz (s_gr C0 (j := 15) (c0 := 11) rfl gX11 (by decide) rfl rfl wg1216 (d_X11_bring_105) hgz (s_il C0 (d_X11_bring_108) hgz (s_aa C0 (by decide) (by decide) rfl rfl (d_X11_bring_110) hgz (s_ic C0 (d_X11_bring_111) hgz (s_ia C0 (d_X11_bring_112) hgz (s_il C0 (d_X11_bring_113) hgz (s_ceq C0 (d_X11_bring_115) (by decide) hgz hgz (fun _ _ _ h => h) (s_goto C0 (tgt := 132) (d_X11_bring_118) (by decide) hgz (fun _ _ _ h => h))))) (okn rfl))))))))) (okn rfl)))))))) (okn rfl)))),
  s_aln C0 (d_X11_bring_121) hgz (s_gr C0 (j := 45) (c0 := 11) rfl gX11 (by decide) rfl rfl wg1246 (d_X11_bring_122) hgz (s_iln C0 (d_X11_bring_125) hgz (s_il C0 (d_X11_bring_126) hgz (s_iax C0 (d_X11_bring_128) hgz (s_inc C0 (d_X11_bring_129) hgz (fun _ _ _ h => h)))))),
  s_inc C0 (d_X11_bring_132) hgz (s_goto C0 (tgt := 80) (d_X11_bring_135) (by decide) hgz (fun _ _ _ h => h)),
  s_inc C0 (d_X11_bring_138) hgz (s_goto C0 (tgt := 70) (d_X11_bring_141) (by decide) hgz (fun _ _ _ h => h)),
  s_ic C0 (d_X11_bring_144) hgz (s_is C0 (d_X11_bring_145) hgz (fun _ _ _ h => h)) (okn rfl),
  s_il C0 (d_X11_bring_147) hgz (s_ic C0 (d_X11_bring_149) hgz (s_iln C0 (d_X11_bring_150) hgz (s_shl C0 (d_X11_bring_151) hgz (s_cge C0 (d_X11_bring_152) (by decide) hgz hgz (fun _ _ _ h => h) (s_ic C0 (d_X11_bring_155) hgz (s_is C0 (d_X11_bring_156) hgz (s_ic C0 (d_X11_bring_158) hgz (s_is C0 (d_X11_bring_159) hgz (s_ic C0 (d_X11_bring_161) hgz (s_is C0 (d_X11_bring_162) hgz (fun _ _ _ h => h)) (okn rfl))) (okn rfl))) (okn rfl))))) (okn rfl)),
  s_il C0 (d_X11_bring_164) hgz (s_iln C0 (d_X11_bring_166) hgz (s_cge C0 (d_X11_bring_167) (by decide) hgz hgz (fun _ _ _ h => h) (s_il C0 (d_X11_bring_170) hgz (s_il C0 (d_X11_bring_172) hgz (s_shr C0 (d_X11_bring_174) hgz (s_ic C0 (d_X11_bring_175) hgz (s_and C0 (d_X11_bring_176) hgz (s_zne C0 (d_X11_bring_177) (by decide) hgz hgz (fun _ _ _ h => h) (s_goto C0 (tgt := 240) (d_X11_bring_180) (by decide) hgz (fun _ _ _ h => h)))) (okn rfl))))))),
  s_aln C0 (d_X11_bring_183) hgz (s_gr C0 (j := 15) (c0 := 11) rfl gX11 (by decide) rfl rfl wg1216 (d_X11_bring_184) hgz (s_aln C0 (d_X11_bring_187) hgz (s_gr C0 (j := 45) (c0 := 11) rfl gX11 (by decide) rfl rfl wg1246 (d_X11_bring_188) hgz (s_il C0 (d_X11_bring_191) hgz (s_ia C0 (d_X11_bring_193) hgz (s_aa C0 (by decide) (by decide) rfl rfl (d_X11_bring_194) hgz (s_as C0 (d_X11_bring_195) hgz (s_il C0 (d_X11_bring_197) hgz (s_al C0 (d_X11_bring_199) hgz (s_ic C0 (d_X11_bring_201) hgz (s_ia C0 (d_X11_bring_202) hgz (s_cle C0 (d_X11_bring_203) (by decide) hgz hgz (fun _ _ _ h => h) (s_il C0 (d_X11_bring_206) hgz (s_goto C0 (tgt := 215) (d_X11_bring_208) (by decide) hgz (fun _ _ _ h => h))))) (okn rfl))))))))))),
  s_al C0 (d_X11_bring_211) hgz (s_ic C0 (d_X11_bring_213) hgz (s_ia C0 (d_X11_bring_214) hgz (fun _ _ _ h => h)) (okn rfl)),
  s_al C0 (d_X11_bring_215) hgz (s_ic C0 (d_X11_bring_217) hgz (s_ia C0 (d_X11_bring_218) hgz (s_aln C0 (d_X11_bring_219) hgz (s_gr C0 (j := 21) (c0 := 11) rfl gX11 (by decide) rfl rfl wg1222 (d_X11_bring_220) hgz (s_iln C0 (d_X11_bring_223) hgz (s_ia C0 (d_X11_bring_224) hgz (s_callS C0 hE (c_X11_rounded l) wg1465 wg1463 wg1464 wg12 ⟨by decide, by decide⟩ (by decide +kernel) ⟨by decide, by decide⟩ ⟨by decide, by decide⟩ (d_X11_bring_225) (fun x hx => (hno x hx).elim) ⟨by decide, by decide⟩ ⟨by decide, by decide⟩ (s_add C0 (d_X11_bring_228) hgz (s_is C0 (d_X11_bring_229) hgz (s_il C0 (d_X11_bring_231) hgz (s_al C0 (d_X11_bring_233) hgz (s_ic C0 (d_X11_bring_235) hgz (s_ia C0 (d_X11_bring_236) hgz (s_add C0 (d_X11_bring_237) hgz (s_is C0 (d_X11_bring_238) hgz (fun _ _ _ h => h)))) (okn rfl)))))))))))) (okn rfl)),
  s_inc C0 (d_X11_bring_240) hgz (s_goto C0 (tgt := 164) (d_X11_bring_243) (by decide) hgz (fun _ _ _ h => h)),
  s_il C0 (d_X11_bring_246) hgz (s_iln C0 (d_X11_bring_248) hgz (s_cgt C0 (d_X11_bring_249) (by decide) hgz hgz (fun _ _ _ h => h) (s_il C0 (d_X11_bring_252) hgz (s_il C0 (d_X11_bring_254) hgz (s_cle C0 (d_X11_bring_256) (by decide) hgz hgz (fun _ _ _ h => h) (s_il C0 (d_X11_bring_259) hgz (s_goto C0 (tgt := 266) (d_X11_bring_261) (by decide) hgz (fun _ _ _ h => h)))))))),
  s_il C0 (d_X11_bring_264) hgz (fun _ _ _ h => h),
  s_is C0 (d_X11_bring_266) hgz (s_inc C0 (d_X11_bring_268) hgz (s_goto C0 (tgt := 147) (d_X11_bring_271) (by decide) hgz (fun _ _ _ h => h))),
  s_il C0 (d_X11_bring_274) hgz (s_ri C0 hr (d_X11_bring_276) ⟨by decide, by decide⟩)⟩
theorem c_X11_bring (l : Launch) : Ctr l yX11_bring cX11_bring 10 (some .int) 11 223 0 (fun sx => (nf G_X11_bring)) := ctr_of (by decide) gz gz ⟨rfl, rfl⟩ (fun p e s m args below meth c D ca ad sx sy A Q as M C0 hE hr hno hF => P_X11_bring (L_X11_bring C0 hE hr hno) hF)
theorem wg1211 : Cond.fieldLink "WeighedHallModel" 20 "WeighedHallModel" "readTold" "[I" ∈ GT := gt_mem 1331 (by decide +kernel) rfl
theorem d_X11_isFull_0 : decode cX11_isFull 0 = .ok (.iload_n 1, 1) := by decide +kernel
theorem d_X11_isFull_1 : decode cX11_isFull 1 = .ok (.ifCond .ne 22, 3) := by decide +kernel
theorem d_X11_isFull_4 : decode cX11_isFull 4 = .ok (.aload_n 0, 1) := by decide +kernel
theorem d_X11_isFull_5 : decode cX11_isFull 5 = .ok (.getfield 20, 3) := by decide +kernel
theorem d_X11_isFull_8 : decode cX11_isFull 8 = .ok (.iconst 0, 1) := by decide +kernel
theorem d_X11_isFull_9 : decode cX11_isFull 9 = .ok (.iaload, 1) := by decide +kernel
theorem d_X11_isFull_10 : decode cX11_isFull 10 = .ok (.bipush 10, 2) := by decide +kernel
theorem d_X11_isFull_12 : decode cX11_isFull 12 = .ok (.if_icmp .ne 7, 3) := by decide +kernel
theorem d_X11_isFull_15 : decode cX11_isFull 15 = .ok (.iconst 1, 1) := by decide +kernel
theorem d_X11_isFull_16 : decode cX11_isFull 16 = .ok (.goto 80, 3) := by decide +kernel
theorem d_X11_isFull_19 : decode cX11_isFull 19 = .ok (.iconst 0, 1) := by decide +kernel
theorem d_X11_isFull_20 : decode cX11_isFull 20 = .ok (.goto 76, 3) := by decide +kernel
theorem d_X11_isFull_23 : decode cX11_isFull 23 = .ok (.iload_n 1, 1) := by decide +kernel
theorem d_X11_isFull_24 : decode cX11_isFull 24 = .ok (.iconst 1, 1) := by decide +kernel
theorem d_X11_isFull_25 : decode cX11_isFull 25 = .ok (.if_icmp .eq 8, 3) := by decide +kernel
theorem d_X11_isFull_28 : decode cX11_isFull 28 = .ok (.iload_n 1, 1) := by decide +kernel
theorem d_X11_isFull_29 : decode cX11_isFull 29 = .ok (.iconst 5, 1) := by decide +kernel
theorem d_X11_isFull_30 : decode cX11_isFull 30 = .ok (.if_icmp .ne 22, 3) := by decide +kernel
theorem d_X11_isFull_33 : decode cX11_isFull 33 = .ok (.aload_n 0, 1) := by decide +kernel
theorem d_X11_isFull_34 : decode cX11_isFull 34 = .ok (.getfield 20, 3) := by decide +kernel
theorem d_X11_isFull_37 : decode cX11_isFull 37 = .ok (.iconst 1, 1) := by decide +kernel
theorem d_X11_isFull_38 : decode cX11_isFull 38 = .ok (.iaload, 1) := by decide +kernel
theorem d_X11_isFull_39 : decode cX11_isFull 39 = .ok (.bipush 14, 2) := by decide +kernel
theorem d_X11_isFull_41 : decode cX11_isFull 41 = .ok (.if_icmp .ne 7, 3) := by decide +kernel
theorem d_X11_isFull_44 : decode cX11_isFull 44 = .ok (.iconst 1, 1) := by decide +kernel
theorem d_X11_isFull_45 : decode cX11_isFull 45 = .ok (.goto 51, 3) := by decide +kernel
theorem d_X11_isFull_48 : decode cX11_isFull 48 = .ok (.iconst 0, 1) := by decide +kernel
theorem d_X11_isFull_49 : decode cX11_isFull 49 = .ok (.goto 47, 3) := by decide +kernel
theorem d_X11_isFull_52 : decode cX11_isFull 52 = .ok (.iload_n 1, 1) := by decide +kernel
theorem d_X11_isFull_53 : decode cX11_isFull 53 = .ok (.iconst 2, 1) := by decide +kernel
theorem d_X11_isFull_54 : decode cX11_isFull 54 = .ok (.if_icmp .ne 21, 3) := by decide +kernel
theorem d_X11_isFull_57 : decode cX11_isFull 57 = .ok (.aload_n 0, 1) := by decide +kernel
theorem d_X11_isFull_58 : decode cX11_isFull 58 = .ok (.getfield 20, 3) := by decide +kernel
theorem d_X11_isFull_61 : decode cX11_isFull 61 = .ok (.iconst 2, 1) := by decide +kernel
theorem d_X11_isFull_62 : decode cX11_isFull 62 = .ok (.iaload, 1) := by decide +kernel
theorem d_X11_isFull_63 : decode cX11_isFull 63 = .ok (.iconst 3, 1) := by decide +kernel
theorem d_X11_isFull_64 : decode cX11_isFull 64 = .ok (.if_icmp .ne 7, 3) := by decide +kernel
theorem d_X11_isFull_67 : decode cX11_isFull 67 = .ok (.iconst 1, 1) := by decide +kernel
theorem d_X11_isFull_68 : decode cX11_isFull 68 = .ok (.goto 28, 3) := by decide +kernel
theorem d_X11_isFull_71 : decode cX11_isFull 71 = .ok (.iconst 0, 1) := by decide +kernel
theorem d_X11_isFull_72 : decode cX11_isFull 72 = .ok (.goto 24, 3) := by decide +kernel
theorem d_X11_isFull_75 : decode cX11_isFull 75 = .ok (.iload_n 1, 1) := by decide +kernel
theorem d_X11_isFull_76 : decode cX11_isFull 76 = .ok (.iconst 3, 1) := by decide +kernel
theorem d_X11_isFull_77 : decode cX11_isFull 77 = .ok (.if_icmp .ne 18, 3) := by decide +kernel
theorem d_X11_isFull_80 : decode cX11_isFull 80 = .ok (.aload_n 0, 1) := by decide +kernel
theorem d_X11_isFull_81 : decode cX11_isFull 81 = .ok (.getfield 20, 3) := by decide +kernel
theorem d_X11_isFull_84 : decode cX11_isFull 84 = .ok (.iconst 3, 1) := by decide +kernel
theorem d_X11_isFull_85 : decode cX11_isFull 85 = .ok (.iaload, 1) := by decide +kernel
theorem d_X11_isFull_86 : decode cX11_isFull 86 = .ok (.bipush 8, 2) := by decide +kernel
theorem d_X11_isFull_88 : decode cX11_isFull 88 = .ok (.if_icmp .ne 7, 3) := by decide +kernel
theorem d_X11_isFull_91 : decode cX11_isFull 91 = .ok (.iconst 1, 1) := by decide +kernel
theorem d_X11_isFull_92 : decode cX11_isFull 92 = .ok (.goto 4, 3) := by decide +kernel
theorem d_X11_isFull_95 : decode cX11_isFull 95 = .ok (.iconst 0, 1) := by decide +kernel
theorem d_X11_isFull_96 : decode cX11_isFull 96 = .ok (.ireturn, 1) := by decide +kernel
set_option maxRecDepth 100000 in
theorem L_X11_isFull {p : Program} {l : Launch} {e : Env} {s : State} {m : MethodId} {args : Array Value} {below : List Frame} {meth : Method} {c : Code} {D : va_G} {ca : Nat → ClassId} {ad sx sy : Nat → Nat} {A : Nat → Prop} {Q : QT} (C0 : CX p s m args meth c cX11_isFull 2 yX11_isFull.cls D ca ad A) (hE : EX sx sy A s s.heap) (hr : meth.sig.returnType = (some .boolean)) (hno : ∀ x ∈ c.exceptionTable.toList, False) : R_X11_isFull (JW p l e { frames := 10, cells := 0, slots := 6 * 0, locals := 200 } s m args below meth c 2 D ca ad A (vx_MQ below (Qn D ca ad A Q) (Qx D ca ad A Q) args s 0 (6 * 0) A) gz gz true) Q := ⟨s_iln C0 (d_X11_isFull_0) hgz (s_zne C0 (d_X11_isFull_1) (by decide) hgz hgz (fun _ _ _ h => h) (s_aln C0 (d_X11_isFull_4) hgz (s_gr C0 (j := 10) (c0 := 11) rfl gX11 (by decide) rfl rfl wg1211 (d_X11_isFull_5) hgz (s_ic C0 (d_X11_isFull_8) hgz (s_ia C0 (d_X11_isFull_9) hgz (s_bi C0 (d_X11_isFull_10) hgz (s_cne C0 (d_X11_isFull_12) (by decide) hgz hgz (fun _ _ _ h => h) (s_ic C0 (d_X11_isFull_15) hgz (s_goto C0 (tgt := 96) (d_X11_isFull_16) (by decide) hgz (fun _ _ _ h => h)) (okn rfl))) (okn rfl) rfl)) (okn rfl))))),
  s_ic C0 (d_X11_isFull_19) hgz (s_goto C0 (tgt := 96) (d_X11_isFull_20) (by decide) hgz (fun _ _ _ h => h)) (okn rfl),
  s_iln C0 (d_X11_isFull_23) hgz (s_ic C0 (d_X11_isFull_24) hgz (s_ceq C0 (d_X11_isFull_25) (by decide) hgz hgz (fun _ _ _ h => h) (s_iln C0 (d_X11_isFull_28) hgz (s_ic C0 (d_X11_isFull_29) hgz (s_cne C0 (d_X11_isFull_30) (by decide) hgz hgz (fun _ _ _ h => h) (fun _ _ _ h => h)) (okn rfl)))) (okn rfl)),
  s_aln C0 (d_X11_isFull_33) hgz (s_gr C0 (j := 10) (c0 := 11) rfl gX11 (by decide) rfl rfl wg1211 (d_X11_isFull_34) hgz (s_ic C0 (d_X11_isFull_37) hgz (s_ia C0 (d_X11_isFull_38) hgz (s_bi C0 (d_X11_isFull_39) hgz (s_cne C0 (d_X11_isFull_41) (by decide) hgz hgz (fun _ _ _ h => h) (s_ic C0 (d_X11_isFull_44) hgz (s_goto C0 (tgt := 96) (d_X11_isFull_45) (by decide) hgz (fun _ _ _ h => h)) (okn rfl))) (okn rfl) rfl)) (okn rfl))),
  s_ic C0 (d_X11_isFull_48) hgz (s_goto C0 (tgt := 96) (d_X11_isFull_49) (by decide) hgz (fun _ _ _ h => h)) (okn rfl),
  s_iln C0 (d_X11_isFull_52) hgz (s_ic C0 (d_X11_isFull_53) hgz (s_cne C0 (d_X11_isFull_54) (by decide) hgz hgz (fun _ _ _ h => h) (s_aln C0 (d_X11_isFull_57) hgz (s_gr C0 (j := 10) (c0 := 11) rfl gX11 (by decide) rfl rfl wg1211 (d_X11_isFull_58) hgz (s_ic C0 (d_X11_isFull_61) hgz (s_ia C0 (d_X11_isFull_62) hgz (s_ic C0 (d_X11_isFull_63) hgz (s_cne C0 (d_X11_isFull_64) (by decide) hgz hgz (fun _ _ _ h => h) (s_ic C0 (d_X11_isFull_67) hgz (s_goto C0 (tgt := 96) (d_X11_isFull_68) (by decide) hgz (fun _ _ _ h => h)) (okn rfl))) (okn rfl))) (okn rfl))))) (okn rfl)),
  s_ic C0 (d_X11_isFull_71) hgz (s_goto C0 (tgt := 96) (d_X11_isFull_72) (by decide) hgz (fun _ _ _ h => h)) (okn rfl),
  s_iln C0 (d_X11_isFull_75) hgz (s_ic C0 (d_X11_isFull_76) hgz (s_cne C0 (d_X11_isFull_77) (by decide) hgz hgz (fun _ _ _ h => h) (s_aln C0 (d_X11_isFull_80) hgz (s_gr C0 (j := 10) (c0 := 11) rfl gX11 (by decide) rfl rfl wg1211 (d_X11_isFull_81) hgz (s_ic C0 (d_X11_isFull_84) hgz (s_ia C0 (d_X11_isFull_85) hgz (s_bi C0 (d_X11_isFull_86) hgz (s_cne C0 (d_X11_isFull_88) (by decide) hgz hgz (fun _ _ _ h => h) (s_ic C0 (d_X11_isFull_91) hgz (s_goto C0 (tgt := 96) (d_X11_isFull_92) (by decide) hgz (fun _ _ _ h => h)) (okn rfl))) (okn rfl) rfl)) (okn rfl))))) (okn rfl)),
  s_ic C0 (d_X11_isFull_95) hgz (fun _ _ _ h => h) (okn rfl),
  s_rz C0 hr (d_X11_isFull_96) ⟨by decide, by decide⟩⟩
theorem c_X11_isFull (l : Launch) : Ctr l yX11_isFull cX11_isFull 2 (some .boolean) 10 200 0 (fun sx => (nf G_X11_isFull)) := ctr_of (by decide) gz gz ⟨rfl, rfl⟩ (fun p e s m args below meth c D ca ad sx sy A Q as M C0 hE hr hno hF => P_X11_isFull (L_X11_isFull C0 hE hr hno) hF)
theorem d_X11_skipWord_0 : decode cX11_skipWord 0 = .ok (.aload_n 0, 1) := by decide +kernel
theorem d_X11_skipWord_1 : decode cX11_skipWord 1 = .ok (.aload_n 0, 1) := by decide +kernel
theorem d_X11_skipWord_2 : decode cX11_skipWord 2 = .ok (.getfield 115, 3) := by decide +kernel
theorem d_X11_skipWord_5 : decode cX11_skipWord 5 = .ok (.invokevirtual 118, 3) := by decide +kernel
theorem d_X11_skipWord_8 : decode cX11_skipWord 8 = .ok (.bipush 97, 2) := by decide +kernel
theorem d_X11_skipWord_10 : decode cX11_skipWord 10 = .ok (.if_icmp .lt 29, 3) := by decide +kernel
theorem d_X11_skipWord_13 : decode cX11_skipWord 13 = .ok (.aload_n 0, 1) := by decide +kernel
theorem d_X11_skipWord_14 : decode cX11_skipWord 14 = .ok (.aload_n 0, 1) := by decide +kernel
theorem d_X11_skipWord_15 : decode cX11_skipWord 15 = .ok (.getfield 115, 3) := by decide +kernel
theorem d_X11_skipWord_18 : decode cX11_skipWord 18 = .ok (.invokevirtual 118, 3) := by decide +kernel
theorem d_X11_skipWord_21 : decode cX11_skipWord 21 = .ok (.bipush 122, 2) := by decide +kernel
theorem d_X11_skipWord_23 : decode cX11_skipWord 23 = .ok (.if_icmp .gt 16, 3) := by decide +kernel
theorem d_X11_skipWord_26 : decode cX11_skipWord 26 = .ok (.aload_n 0, 1) := by decide +kernel
theorem d_X11_skipWord_27 : decode cX11_skipWord 27 = .ok (.dup, 1) := by decide +kernel
theorem d_X11_skipWord_28 : decode cX11_skipWord 28 = .ok (.getfield 115, 3) := by decide +kernel
theorem d_X11_skipWord_31 : decode cX11_skipWord 31 = .ok (.iconst 1, 1) := by decide +kernel
theorem d_X11_skipWord_32 : decode cX11_skipWord 32 = .ok (.iadd, 1) := by decide +kernel
theorem d_X11_skipWord_33 : decode cX11_skipWord 33 = .ok (.putfield 115, 3) := by decide +kernel
theorem d_X11_skipWord_36 : decode cX11_skipWord 36 = .ok (.goto (-36), 3) := by decide +kernel
theorem d_X11_skipWord_39 : decode cX11_skipWord 39 = .ok (.return_, 1) := by decide +kernel
set_option maxRecDepth 100000 in
theorem L_X11_skipWord {p : Program} {l : Launch} {e : Env} {s : State} {m : MethodId} {args : Array Value} {below : List Frame} {meth : Method} {c : Code} {D : va_G} {ca : Nat → ClassId} {ad sx sy : Nat → Nat} {A : Nat → Prop} {Q : QT} (C0 : CX p s m args meth c cX11_skipWord 1 yX11_skipWord.cls D ca ad A) (hE : EX sx sy A s s.heap) (hr : meth.sig.returnType = none) (hno : ∀ x ∈ c.exceptionTable.toList, False) : R_X11_skipWord (JW p l e { frames := 11, cells := 0, slots := 6 * 0, locals := 221 } s m args below meth c 1 D ca ad A (vx_MQ below (Qn D ca ad A Q) (Qx D ca ad A Q) args s 0 (6 * 0) A) gz gz true) Q := ⟨s_aln C0 (d_X11_skipWord_0) hgz (s_aln C0 (d_X11_skipWord_1) hgz (s_gi C0 (j := 4) (c0 := 11) rfl gX11 (by decide) rfl (by decide) wg1205 (d_X11_skipWord_2) hgz (s_callV C0 hE (c_X11_byteAt l) wg1371 wg1368 wg1370 ws85 wg12 ⟨by decide, by decide⟩ (by decide +kernel) (c0 := 11) rfl ⟨by decide, by decide⟩ ⟨by decide, by decide⟩ (d_X11_skipWord_5) (fun x hx => (hno x hx).elim) ⟨by decide, by decide⟩ ⟨by decide, by decide⟩ (s_bi C0 (d_X11_skipWord_8) hgz (s_clt C0 (d_X11_skipWord_10) (by decide) hgz hgz (fun _ _ _ h => h) (s_aln C0 (d_X11_skipWord_13) hgz (s_aln C0 (d_X11_skipWord_14) hgz (s_gi C0 (j := 4) (c0 := 11) rfl gX11 (by decide) rfl (by decide) wg1205 (d_X11_skipWord_15) hgz (s_callV C0 hE (c_X11_byteAt l) wg1371 wg1368 wg1370 ws85 wg12 ⟨by decide, by decide⟩ (by decide +kernel) (c0 := 11) rfl ⟨by decide, by decide⟩ ⟨by decide, by decide⟩ (d_X11_skipWord_18) (fun x hx => (hno x hx).elim) ⟨by decide, by decide⟩ ⟨by decide, by decide⟩ (s_bi C0 (d_X11_skipWord_21) hgz (s_cgt C0 (d_X11_skipWord_23) (by decide) hgz hgz (fun _ _ _ h => h) (s_aln C0 (d_X11_skipWord_26) hgz (s_dup C0 (d_X11_skipWord_27) hgz (s_gi C0 (j := 4) (c0 := 11) rfl gX11 (by decide) rfl (by decide) wg1205 (d_X11_skipWord_28) hgz (s_ic C0 (d_X11_skipWord_31) hgz (s_add C0 (d_X11_skipWord_32) hgz (s_pi C0 (j := 4) (c0 := 11) rfl gX11 tyX11_ok nmX11 (by decide) rfl (by decide) rfl rfl wg1205 (d_X11_skipWord_33) hgz (s_goto C0 (tgt := 0) (d_X11_skipWord_36) (by decide) hgz (fun _ _ _ h => h)))) (okn rfl)))))) (okn rfl) rfl)))))) (okn rfl) rfl)))),
  s_rv C0 hr (d_X11_skipWord_39) ⟨by decide, by decide⟩⟩
theorem c_X11_skipWord (l : Launch) : Ctr l yX11_skipWord cX11_skipWord 1 none 11 221 0 (fun sx => (nf G_X11_skipWord)) := ctr_of (by decide) gz gz ⟨rfl, rfl⟩ (fun p e s m args below meth c D ca ad sx sy A Q as M C0 hE hr hno hF => P_X11_skipWord (L_X11_skipWord C0 hE hr hno) hF)
theorem wg1207 : Cond.fieldLink "WeighedHallModel" 125 "WeighedHallModel" "faultAt" "I" ∈ GT := gt_mem 1327 (by decide +kernel) rfl
theorem wg1206 : Cond.fieldLink "WeighedHallModel" 122 "WeighedHallModel" "fault" "I" ∈ GT := gt_mem 1326 (by decide +kernel) rfl
theorem d_X11_wrong_0 : decode cX11_wrong 0 = .ok (.aload_n 0, 1) := by decide +kernel
theorem d_X11_wrong_1 : decode cX11_wrong 1 = .ok (.getfield 122, 3) := by decide +kernel
theorem d_X11_wrong_4 : decode cX11_wrong 4 = .ok (.ifCond .ne 13, 3) := by decide +kernel
theorem d_X11_wrong_7 : decode cX11_wrong 7 = .ok (.aload_n 0, 1) := by decide +kernel
theorem d_X11_wrong_8 : decode cX11_wrong 8 = .ok (.iload_n 1, 1) := by decide +kernel
theorem d_X11_wrong_9 : decode cX11_wrong 9 = .ok (.putfield 122, 3) := by decide +kernel
theorem d_X11_wrong_12 : decode cX11_wrong 12 = .ok (.aload_n 0, 1) := by decide +kernel
theorem d_X11_wrong_13 : decode cX11_wrong 13 = .ok (.iload_n 2, 1) := by decide +kernel
theorem d_X11_wrong_14 : decode cX11_wrong 14 = .ok (.putfield 125, 3) := by decide +kernel
theorem d_X11_wrong_17 : decode cX11_wrong 17 = .ok (.return_, 1) := by decide +kernel
set_option maxRecDepth 100000 in
theorem L_X11_wrong {p : Program} {l : Launch} {e : Env} {s : State} {m : MethodId} {args : Array Value} {below : List Frame} {meth : Method} {c : Code} {D : va_G} {ca : Nat → ClassId} {ad sx sy : Nat → Nat} {A : Nat → Prop} {Q : QT} (C0 : CX p s m args meth c cX11_wrong 3 yX11_wrong.cls D ca ad A) (hE : EX sx sy A s s.heap) (hr : meth.sig.returnType = none) (hno : ∀ x ∈ c.exceptionTable.toList, False) : R_X11_wrong (JW p l e { frames := 10, cells := 0, slots := 6 * 0, locals := 200 } s m args below meth c 3 D ca ad A (vx_MQ below (Qn D ca ad A Q) (Qx D ca ad A Q) args s 0 (6 * 0) A) gz gz true) Q := ⟨s_aln C0 (d_X11_wrong_0) hgz (s_gi C0 (j := 5) (c0 := 11) rfl gX11 (by decide) rfl (by decide) wg1206 (d_X11_wrong_1) hgz (s_zne C0 (d_X11_wrong_4) (by decide) hgz hgz (fun _ _ _ h => h) (s_aln C0 (d_X11_wrong_7) hgz (s_iln C0 (d_X11_wrong_8) hgz (s_pi C0 (j := 5) (c0 := 11) rfl gX11 tyX11_ok nmX11 (by decide) rfl (by decide) rfl rfl wg1206 (d_X11_wrong_9) hgz (s_aln C0 (d_X11_wrong_12) hgz (s_iln C0 (d_X11_wrong_13) hgz (s_pi C0 (j := 6) (c0 := 11) rfl gX11 tyX11_ok nmX11 (by decide) rfl (by decide) rfl rfl wg1207 (d_X11_wrong_14) hgz (fun _ _ _ h => h))))))))),
  s_rv C0 hr (d_X11_wrong_17) ⟨by decide, by decide⟩⟩
theorem c_X11_wrong (l : Launch) : Ctr l yX11_wrong cX11_wrong 3 none 10 200 0 (fun sx => (nf G_X11_wrong)) := ctr_of (by decide) gz gz ⟨rfl, rfl⟩ (fun p e s m args below meth c D ca ad sx sy A Q as M C0 hE hr hno hF => P_X11_wrong (L_X11_wrong C0 hE hr hno) hF)
theorem wg1367 : Cond.code ⟨"WeighedHallModel", "blanks", "()V"⟩ prog_13_method_7_code 1 (Option.none : Option FieldType) ∈ GT := gt_mem 1487 (by decide +kernel) rfl
theorem wg1364 : Cond.methodLink "WeighedHallModel" 128 ⟨"WeighedHallModel", "blanks", "()V"⟩ ∈ GT := gt_mem 1484 (by decide +kernel) rfl
theorem wg1366 : Cond.instanceMethod ⟨"WeighedHallModel", "blanks", "()V"⟩ ∈ GT := gt_mem 1486 (by decide +kernel) rfl
theorem ws84 : Cond.selects "WeighedHallModel" ⟨"WeighedHallModel", "blanks", "()V"⟩ ⟨"WeighedHallModel", "blanks", "()V"⟩ ∈ GT := gt_mem 84 (by decide +kernel) rfl
theorem wg1398 : Cond.code ⟨"WeighedHallModel", "wrong", "(II)V"⟩ prog_13_method_8_code 3 (Option.none : Option FieldType) ∈ GT := gt_mem 1518 (by decide +kernel) rfl
theorem wg1395 : Cond.methodLink "WeighedHallModel" 135 ⟨"WeighedHallModel", "wrong", "(II)V"⟩ ∈ GT := gt_mem 1515 (by decide +kernel) rfl
theorem wg1397 : Cond.instanceMethod ⟨"WeighedHallModel", "wrong", "(II)V"⟩ ∈ GT := gt_mem 1517 (by decide +kernel) rfl
theorem ws90 : Cond.selects "WeighedHallModel" ⟨"WeighedHallModel", "wrong", "(II)V"⟩ ⟨"WeighedHallModel", "wrong", "(II)V"⟩ ∈ GT := gt_mem 90 (by decide +kernel) rfl
theorem d_X11_closes_0 : decode cX11_closes 0 = .ok (.aload_n 0, 1) := by decide +kernel
theorem d_X11_closes_1 : decode cX11_closes 1 = .ok (.getfield 122, 3) := by decide +kernel
theorem d_X11_closes_4 : decode cX11_closes 4 = .ok (.ifCond .eq 4, 3) := by decide +kernel
theorem d_X11_closes_7 : decode cX11_closes 7 = .ok (.return_, 1) := by decide +kernel
theorem d_X11_closes_8 : decode cX11_closes 8 = .ok (.aload_n 0, 1) := by decide +kernel
theorem d_X11_closes_9 : decode cX11_closes 9 = .ok (.invokevirtual 128, 3) := by decide +kernel
theorem d_X11_closes_12 : decode cX11_closes 12 = .ok (.aload_n 0, 1) := by decide +kernel
theorem d_X11_closes_13 : decode cX11_closes 13 = .ok (.aload_n 0, 1) := by decide +kernel
theorem d_X11_closes_14 : decode cX11_closes 14 = .ok (.getfield 115, 3) := by decide +kernel
theorem d_X11_closes_17 : decode cX11_closes 17 = .ok (.invokevirtual 118, 3) := by decide +kernel
theorem d_X11_closes_20 : decode cX11_closes 20 = .ok (.bipush 59, 2) := by decide +kernel
theorem d_X11_closes_22 : decode cX11_closes 22 = .ok (.if_icmp .ne 16, 3) := by decide +kernel
theorem d_X11_closes_25 : decode cX11_closes 25 = .ok (.aload_n 0, 1) := by decide +kernel
theorem d_X11_closes_26 : decode cX11_closes 26 = .ok (.dup, 1) := by decide +kernel
theorem d_X11_closes_27 : decode cX11_closes 27 = .ok (.getfield 115, 3) := by decide +kernel
theorem d_X11_closes_30 : decode cX11_closes 30 = .ok (.iconst 1, 1) := by decide +kernel
theorem d_X11_closes_31 : decode cX11_closes 31 = .ok (.iadd, 1) := by decide +kernel
theorem d_X11_closes_32 : decode cX11_closes 32 = .ok (.putfield 115, 3) := by decide +kernel
theorem d_X11_closes_35 : decode cX11_closes 35 = .ok (.goto 12, 3) := by decide +kernel
theorem d_X11_closes_38 : decode cX11_closes 38 = .ok (.aload_n 0, 1) := by decide +kernel
theorem d_X11_closes_39 : decode cX11_closes 39 = .ok (.iconst 1, 1) := by decide +kernel
theorem d_X11_closes_40 : decode cX11_closes 40 = .ok (.aload_n 0, 1) := by decide +kernel
theorem d_X11_closes_41 : decode cX11_closes 41 = .ok (.getfield 115, 3) := by decide +kernel
theorem d_X11_closes_44 : decode cX11_closes 44 = .ok (.invokevirtual 135, 3) := by decide +kernel
theorem d_X11_closes_47 : decode cX11_closes 47 = .ok (.return_, 1) := by decide +kernel
set_option maxRecDepth 100000 in
theorem L_X11_closes {p : Program} {l : Launch} {e : Env} {s : State} {m : MethodId} {args : Array Value} {below : List Frame} {meth : Method} {c : Code} {D : va_G} {ca : Nat → ClassId} {ad sx sy : Nat → Nat} {A : Nat → Prop} {Q : QT} (C0 : CX p s m args meth c cX11_closes 1 yX11_closes.cls D ca ad A) (hE : EX sx sy A s s.heap) (hr : meth.sig.returnType = none) (hno : ∀ x ∈ c.exceptionTable.toList, False) : R_X11_closes (JW p l e { frames := 12, cells := 0, slots := 6 * 0, locals := 241 } s m args below meth c 1 D ca ad A (vx_MQ below (Qn D ca ad A Q) (Qx D ca ad A Q) args s 0 (6 * 0) A) gz gz true) Q := ⟨s_aln C0 (d_X11_closes_0) hgz (s_gi C0 (j := 5) (c0 := 11) rfl gX11 (by decide) rfl (by decide) wg1206 (d_X11_closes_1) hgz (s_zeq C0 (d_X11_closes_4) (by decide) hgz hgz (fun _ _ _ h => h) (s_rv C0 hr (d_X11_closes_7) ⟨by decide, by decide⟩))),
  s_aln C0 (d_X11_closes_8) hgz (s_callV C0 hE (c_X11_blanks l) wg1367 wg1364 wg1366 ws84 wg12 ⟨by decide, by decide⟩ (by decide +kernel) (c0 := 11) rfl ⟨by decide, by decide⟩ ⟨by decide, by decide⟩ (d_X11_closes_9) (fun x hx => (hno x hx).elim) ⟨by decide, by decide⟩ ⟨by decide, by decide⟩ (s_aln C0 (d_X11_closes_12) hgz (s_aln C0 (d_X11_closes_13) hgz (s_gi C0 (j := 4) (c0 := 11) rfl gX11 (by decide) rfl (by decide) wg1205 (d_X11_closes_14) hgz (s_callV C0 hE (c_X11_byteAt l) wg1371 wg1368 wg1370 ws85 wg12 ⟨by decide, by decide⟩ (by decide +kernel) (c0 := 11) rfl ⟨by decide, by decide⟩ ⟨by decide, by decide⟩ (d_X11_closes_17) (fun x hx => (hno x hx).elim) ⟨by decide, by decide⟩ ⟨by decide, by decide⟩ (s_bi C0 (d_X11_closes_20) hgz (s_cne C0 (d_X11_closes_22) (by decide) hgz hgz (fun _ _ _ h => h) (s_aln C0 (d_X11_closes_25) hgz (s_dup C0 (d_X11_closes_26) hgz (s_gi C0 (j := 4) (c0 := 11) rfl gX11 (by decide) rfl (by decide) wg1205 (d_X11_closes_27) hgz (s_ic C0 (d_X11_closes_30) hgz (s_add C0 (d_X11_closes_31) hgz (s_pi C0 (j := 4) (c0 := 11) rfl gX11 tyX11_ok nmX11 (by decide) rfl (by decide) rfl rfl wg1205 (d_X11_closes_32) hgz (s_goto C0 (tgt := 47) (d_X11_closes_35) (by decide) hgz (fun _ _ _ h => h)))) (okn rfl)))))) (okn rfl) rfl)))))),
  s_aln C0 (d_X11_closes_38) hgz (s_ic C0 (d_X11_closes_39) hgz (s_aln C0 (d_X11_closes_40) hgz (s_gi C0 (j := 4) (c0 := 11) rfl gX11 (by decide) rfl (by decide) wg1205 (d_X11_closes_41) hgz (s_callV C0 hE (c_X11_wrong l) wg1398 wg1395 wg1397 ws90 wg12 ⟨by decide, by decide⟩ (by decide +kernel) (c0 := 11) rfl ⟨by decide, by decide⟩ ⟨by decide, by decide⟩ (d_X11_closes_44) (fun x hx => (hno x hx).elim) ⟨by decide, by decide⟩ ⟨by decide, by decide⟩ (fun _ _ _ h => h)))) (okn rfl)),
  s_rv C0 hr (d_X11_closes_47) ⟨by decide, by decide⟩⟩
theorem c_X11_closes (l : Launch) : Ctr l yX11_closes cX11_closes 1 none 12 241 0 (fun sx => (nf G_X11_closes)) := ctr_of (by decide) gz gz ⟨rfl, rfl⟩ (fun p e s m args below meth c D ca ad sx sy A Q as M C0 hE hr hno hF => P_X11_closes (L_X11_closes C0 hE hr hno) hF)
theorem wg1392 : Cond.constantLong "WeighedHallModel" 146 97 ∈ GT := gt_mem 1512 (by decide +kernel) rfl
theorem wg1383 : Cond.constantLong "WeighedHallModel" 144 27 ∈ GT := gt_mem 1503 (by decide +kernel) rfl
theorem wg1393 : Cond.constantLong "WeighedHallModel" 148 (-1) ∈ GT := gt_mem 1513 (by decide +kernel) rfl
theorem d_X11_wordHere_0 : decode cX11_wordHere 0 = .ok (.aload_n 0, 1) := by decide +kernel
theorem d_X11_wordHere_1 : decode cX11_wordHere 1 = .ok (.invokevirtual 128, 3) := by decide +kernel
theorem d_X11_wordHere_4 : decode cX11_wordHere 4 = .ok (.lconst 0, 1) := by decide +kernel
theorem d_X11_wordHere_5 : decode cX11_wordHere 5 = .ok (.lstore_n 1, 1) := by decide +kernel
theorem d_X11_wordHere_6 : decode cX11_wordHere 6 = .ok (.iconst 0, 1) := by decide +kernel
theorem d_X11_wordHere_7 : decode cX11_wordHere 7 = .ok (.istore_n 3, 1) := by decide +kernel
theorem d_X11_wordHere_8 : decode cX11_wordHere 8 = .ok (.aload_n 0, 1) := by decide +kernel
theorem d_X11_wordHere_9 : decode cX11_wordHere 9 = .ok (.aload_n 0, 1) := by decide +kernel
theorem d_X11_wordHere_10 : decode cX11_wordHere 10 = .ok (.getfield 115, 3) := by decide +kernel
theorem d_X11_wordHere_13 : decode cX11_wordHere 13 = .ok (.iload_n 3, 1) := by decide +kernel
theorem d_X11_wordHere_14 : decode cX11_wordHere 14 = .ok (.iadd, 1) := by decide +kernel
theorem d_X11_wordHere_15 : decode cX11_wordHere 15 = .ok (.invokevirtual 118, 3) := by decide +kernel
theorem d_X11_wordHere_18 : decode cX11_wordHere 18 = .ok (.bipush 97, 2) := by decide +kernel
theorem d_X11_wordHere_20 : decode cX11_wordHere 20 = .ok (.if_icmp .lt 58, 3) := by decide +kernel
theorem d_X11_wordHere_23 : decode cX11_wordHere 23 = .ok (.aload_n 0, 1) := by decide +kernel
theorem d_X11_wordHere_24 : decode cX11_wordHere 24 = .ok (.aload_n 0, 1) := by decide +kernel
theorem d_X11_wordHere_25 : decode cX11_wordHere 25 = .ok (.getfield 115, 3) := by decide +kernel
theorem d_X11_wordHere_28 : decode cX11_wordHere 28 = .ok (.iload_n 3, 1) := by decide +kernel
theorem d_X11_wordHere_29 : decode cX11_wordHere 29 = .ok (.iadd, 1) := by decide +kernel
theorem d_X11_wordHere_30 : decode cX11_wordHere 30 = .ok (.invokevirtual 118, 3) := by decide +kernel
theorem d_X11_wordHere_33 : decode cX11_wordHere 33 = .ok (.bipush 122, 2) := by decide +kernel
theorem d_X11_wordHere_35 : decode cX11_wordHere 35 = .ok (.if_icmp .gt 43, 3) := by decide +kernel
theorem d_X11_wordHere_38 : decode cX11_wordHere 38 = .ok (.iload_n 3, 1) := by decide +kernel
theorem d_X11_wordHere_39 : decode cX11_wordHere 39 = .ok (.bipush 8, 2) := by decide +kernel
theorem d_X11_wordHere_41 : decode cX11_wordHere 41 = .ok (.if_icmp .ge 29, 3) := by decide +kernel
theorem d_X11_wordHere_44 : decode cX11_wordHere 44 = .ok (.ldc2_w 144, 3) := by decide +kernel
theorem d_X11_wordHere_47 : decode cX11_wordHere 47 = .ok (.lload_n 1, 1) := by decide +kernel
theorem d_X11_wordHere_48 : decode cX11_wordHere 48 = .ok (.lmul, 1) := by decide +kernel
theorem d_X11_wordHere_49 : decode cX11_wordHere 49 = .ok (.aload_n 0, 1) := by decide +kernel
theorem d_X11_wordHere_50 : decode cX11_wordHere 50 = .ok (.aload_n 0, 1) := by decide +kernel
theorem d_X11_wordHere_51 : decode cX11_wordHere 51 = .ok (.getfield 115, 3) := by decide +kernel
theorem d_X11_wordHere_54 : decode cX11_wordHere 54 = .ok (.iload_n 3, 1) := by decide +kernel
theorem d_X11_wordHere_55 : decode cX11_wordHere 55 = .ok (.iadd, 1) := by decide +kernel
theorem d_X11_wordHere_56 : decode cX11_wordHere 56 = .ok (.invokevirtual 118, 3) := by decide +kernel
theorem d_X11_wordHere_59 : decode cX11_wordHere 59 = .ok (.i2l, 1) := by decide +kernel
theorem d_X11_wordHere_60 : decode cX11_wordHere 60 = .ok (.ladd, 1) := by decide +kernel
theorem d_X11_wordHere_61 : decode cX11_wordHere 61 = .ok (.ldc2_w 146, 3) := by decide +kernel
theorem d_X11_wordHere_64 : decode cX11_wordHere 64 = .ok (.lsub, 1) := by decide +kernel
theorem d_X11_wordHere_65 : decode cX11_wordHere 65 = .ok (.lconst 1, 1) := by decide +kernel
theorem d_X11_wordHere_66 : decode cX11_wordHere 66 = .ok (.ladd, 1) := by decide +kernel
theorem d_X11_wordHere_67 : decode cX11_wordHere 67 = .ok (.goto 4, 3) := by decide +kernel
theorem d_X11_wordHere_70 : decode cX11_wordHere 70 = .ok (.lload_n 1, 1) := by decide +kernel
theorem d_X11_wordHere_71 : decode cX11_wordHere 71 = .ok (.lstore_n 1, 1) := by decide +kernel
theorem d_X11_wordHere_72 : decode cX11_wordHere 72 = .ok (.iinc 3 1, 3) := by decide +kernel
theorem d_X11_wordHere_75 : decode cX11_wordHere 75 = .ok (.goto (-67), 3) := by decide +kernel
theorem d_X11_wordHere_78 : decode cX11_wordHere 78 = .ok (.iload_n 3, 1) := by decide +kernel
theorem d_X11_wordHere_79 : decode cX11_wordHere 79 = .ok (.bipush 8, 2) := by decide +kernel
theorem d_X11_wordHere_81 : decode cX11_wordHere 81 = .ok (.if_icmp .le 9, 3) := by decide +kernel
theorem d_X11_wordHere_84 : decode cX11_wordHere 84 = .ok (.ldc2_w 148, 3) := by decide +kernel
theorem d_X11_wordHere_87 : decode cX11_wordHere 87 = .ok (.goto 4, 3) := by decide +kernel
theorem d_X11_wordHere_90 : decode cX11_wordHere 90 = .ok (.lload_n 1, 1) := by decide +kernel
theorem d_X11_wordHere_91 : decode cX11_wordHere 91 = .ok (.lreturn, 1) := by decide +kernel
set_option maxRecDepth 100000 in
theorem L_X11_wordHere {p : Program} {l : Launch} {e : Env} {s : State} {m : MethodId} {args : Array Value} {below : List Frame} {meth : Method} {c : Code} {D : va_G} {ca : Nat → ClassId} {ad sx sy : Nat → Nat} {A : Nat → Prop} {Q : QT} (C0 : CX p s m args meth c cX11_wordHere 4 yX11_wordHere.cls D ca ad A) (hE : EX sx sy A s s.heap) (hr : meth.sig.returnType = (some .long)) (hno : ∀ x ∈ c.exceptionTable.toList, False) : R_X11_wordHere (JW p l e { frames := 12, cells := 0, slots := 6 * 0, locals := 241 } s m args below meth c 4 D ca ad A (vx_MQ below (Qn D ca ad A Q) (Qx D ca ad A Q) args s 0 (6 * 0) A) gz gz true) Q := ⟨s_aln C0 (d_X11_wordHere_0) hgz (s_callV C0 hE (c_X11_blanks l) wg1367 wg1364 wg1366 ws84 wg12 ⟨by decide, by decide⟩ (by decide +kernel) (c0 := 11) rfl ⟨by decide, by decide⟩ ⟨by decide, by decide⟩ (d_X11_wordHere_1) (fun x hx => (hno x hx).elim) ⟨by decide, by decide⟩ ⟨by decide, by decide⟩ (s_lcn C0 (d_X11_wordHere_4) hgz (s_lsn C0 (d_X11_wordHere_5) hgz (s_ic C0 (d_X11_wordHere_6) hgz (s_isn C0 (d_X11_wordHere_7) hgz (fun _ _ _ h => h)) (okn rfl))) rfl (okn2 rfl))),
  s_aln C0 (d_X11_wordHere_8) hgz (s_aln C0 (d_X11_wordHere_9) hgz (s_gi C0 (j := 4) (c0 := 11) rfl gX11 (by decide) rfl (by decide) wg1205 (d_X11_wordHere_10) hgz (s_iln C0 (d_X11_wordHere_13) hgz (s_add C0 (d_X11_wordHere_14) hgz (s_callV C0 hE (c_X11_byteAt l) wg1371 wg1368 wg1370 ws85 wg12 ⟨by decide, by decide⟩ (by decide +kernel) (c0 := 11) rfl ⟨by decide, by decide⟩ ⟨by decide, by decide⟩ (d_X11_wordHere_15) (fun x hx => (hno x hx).elim) ⟨by decide, by decide⟩ ⟨by decide, by decide⟩ (s_bi C0 (d_X11_wordHere_18) hgz (s_clt C0 (d_X11_wordHere_20) (by decide) hgz hgz (fun _ _ _ h => h) (s_aln C0 (d_X11_wordHere_23) hgz (s_aln C0 (d_X11_wordHere_24) hgz (s_gi C0 (j := 4) (c0 := 11) rfl gX11 (by decide) rfl (by decide) wg1205 (d_X11_wordHere_25) hgz (s_iln C0 (d_X11_wordHere_28) hgz (s_add C0 (d_X11_wordHere_29) hgz (s_callV C0 hE (c_X11_byteAt l) wg1371 wg1368 wg1370 ws85 wg12 ⟨by decide, by decide⟩ (by decide +kernel) (c0 := 11) rfl ⟨by decide, by decide⟩ ⟨by decide, by decide⟩ (d_X11_wordHere_30) (fun x hx => (hno x hx).elim) ⟨by decide, by decide⟩ ⟨by decide, by decide⟩ (s_bi C0 (d_X11_wordHere_33) hgz (s_cgt C0 (d_X11_wordHere_35) (by decide) hgz hgz (fun _ _ _ h => h) (s_iln C0 (d_X11_wordHere_38) hgz (s_bi C0 (d_X11_wordHere_39) hgz (s_cge C0 (d_X11_wordHere_41) (by decide) hgz hgz (fun _ _ _ h => h) (s_ldc2 C0 (n := 27) wg1383 (d_X11_wordHere_44) hgz (s_lln C0 (d_X11_wordHere_47) hgz (s_lmul C0 (d_X11_wordHere_48) hgz (s_aln C0 (d_X11_wordHere_49) hgz (s_aln C0 (d_X11_wordHere_50) hgz (s_gi C0 (j := 4) (c0 := 11) rfl gX11 (by decide) rfl (by decide) wg1205 (d_X11_wordHere_51) hgz (s_iln C0 (d_X11_wordHere_54) hgz (s_add C0 (d_X11_wordHere_55) hgz (s_callV C0 hE (c_X11_byteAt l) wg1371 wg1368 wg1370 ws85 wg12 ⟨by decide, by decide⟩ (by decide +kernel) (c0 := 11) rfl ⟨by decide, by decide⟩ ⟨by decide, by decide⟩ (d_X11_wordHere_56) (fun x hx => (hno x hx).elim) ⟨by decide, by decide⟩ ⟨by decide, by decide⟩ (s_i2l C0 (d_X11_wordHere_59) hgz (s_ladd C0 (d_X11_wordHere_60) hgz (s_ldc2 C0 (n := 97) wg1392 (d_X11_wordHere_61) hgz (s_lsub C0 (d_X11_wordHere_64) hgz (s_lcn C0 (d_X11_wordHere_65) hgz (s_ladd C0 (d_X11_wordHere_66) hgz (s_goto C0 (tgt := 71) (d_X11_wordHere_67) (by decide) hgz (fun _ _ _ h => h))) rfl (okn2 rfl))) (okn2 rfl)))))))))))) (okn2 rfl))) (okn rfl) rfl))) (okn rfl) rfl)))))))) (okn rfl) rfl)))))),
  s_lln C0 (d_X11_wordHere_70) hgz (fun _ _ _ h => h),
  s_lsn C0 (d_X11_wordHere_71) hgz (s_inc C0 (d_X11_wordHere_72) hgz (s_goto C0 (tgt := 8) (d_X11_wordHere_75) (by decide) hgz (fun _ _ _ h => h))),
  s_iln C0 (d_X11_wordHere_78) hgz (s_bi C0 (d_X11_wordHere_79) hgz (s_cle C0 (d_X11_wordHere_81) (by decide) hgz hgz (fun _ _ _ h => h) (s_ldc2 C0 (n := (-1)) wg1393 (d_X11_wordHere_84) hgz (s_goto C0 (tgt := 91) (d_X11_wordHere_87) (by decide) hgz (fun _ _ _ h => h)) (okn2 rfl))) (okn rfl) rfl),
  s_lln C0 (d_X11_wordHere_90) hgz (fun _ _ _ h => h),
  s_rl C0 hr (d_X11_wordHere_91) ⟨by decide, by decide⟩⟩
theorem c_X11_wordHere (l : Launch) : Ctr l yX11_wordHere cX11_wordHere 4 (some .long) 12 241 0 (fun sx => (nf G_X11_wordHere)) := ctr_of (by decide) gz gz ⟨rfl, rfl⟩ (fun p e s m args below meth c D ca ad sx sy A Q as M C0 hE hr hno hF => P_X11_wordHere (L_X11_wordHere C0 hE hr hno) hF)
theorem wg1391 : Cond.code ⟨"WeighedHallModel", "wordHere", "()J"⟩ prog_13_method_11_code 4 (Option.some .long) ∈ GT := gt_mem 1511 (by decide +kernel) rfl
theorem wg1388 : Cond.methodLink "WeighedHallModel" 150 ⟨"WeighedHallModel", "wordHere", "()J"⟩ ∈ GT := gt_mem 1508 (by decide +kernel) rfl
theorem wg1390 : Cond.instanceMethod ⟨"WeighedHallModel", "wordHere", "()J"⟩ ∈ GT := gt_mem 1510 (by decide +kernel) rfl
theorem ws89 : Cond.selects "WeighedHallModel" ⟨"WeighedHallModel", "wordHere", "()J"⟩ ⟨"WeighedHallModel", "wordHere", "()J"⟩ ∈ GT := gt_mem 89 (by decide +kernel) rfl
theorem d_X11_isWord_0 : decode cX11_isWord 0 = .ok (.aload_n 0, 1) := by decide +kernel
theorem d_X11_isWord_1 : decode cX11_isWord 1 = .ok (.getfield 122, 3) := by decide +kernel
theorem d_X11_isWord_4 : decode cX11_isWord 4 = .ok (.ifCond .ne 16, 3) := by decide +kernel
theorem d_X11_isWord_7 : decode cX11_isWord 7 = .ok (.aload_n 0, 1) := by decide +kernel
theorem d_X11_isWord_8 : decode cX11_isWord 8 = .ok (.invokevirtual 150, 3) := by decide +kernel
theorem d_X11_isWord_11 : decode cX11_isWord 11 = .ok (.lload_n 1, 1) := by decide +kernel
theorem d_X11_isWord_12 : decode cX11_isWord 12 = .ok (.lcmp, 1) := by decide +kernel
theorem d_X11_isWord_13 : decode cX11_isWord 13 = .ok (.ifCond .ne 7, 3) := by decide +kernel
theorem d_X11_isWord_16 : decode cX11_isWord 16 = .ok (.iconst 1, 1) := by decide +kernel
theorem d_X11_isWord_17 : decode cX11_isWord 17 = .ok (.goto 4, 3) := by decide +kernel
theorem d_X11_isWord_20 : decode cX11_isWord 20 = .ok (.iconst 0, 1) := by decide +kernel
theorem d_X11_isWord_21 : decode cX11_isWord 21 = .ok (.ireturn, 1) := by decide +kernel
set_option maxRecDepth 100000 in
theorem L_X11_isWord {p : Program} {l : Launch} {e : Env} {s : State} {m : MethodId} {args : Array Value} {below : List Frame} {meth : Method} {c : Code} {D : va_G} {ca : Nat → ClassId} {ad sx sy : Nat → Nat} {A : Nat → Prop} {Q : QT} (C0 : CX p s m args meth c cX11_isWord 3 yX11_isWord.cls D ca ad A) (hE : EX sx sy A s s.heap) (hr : meth.sig.returnType = (some .boolean)) (hno : ∀ x ∈ c.exceptionTable.toList, False) : R_X11_isWord (JW p l e { frames := 13, cells := 0, slots := 6 * 0, locals := 264 } s m args below meth c 3 D ca ad A (vx_MQ below (Qn D ca ad A Q) (Qx D ca ad A Q) args s 0 (6 * 0) A) gz gz true) Q := ⟨s_aln C0 (d_X11_isWord_0) hgz (s_gi C0 (j := 5) (c0 := 11) rfl gX11 (by decide) rfl (by decide) wg1206 (d_X11_isWord_1) hgz (s_zne C0 (d_X11_isWord_4) (by decide) hgz hgz (fun _ _ _ h => h) (s_aln C0 (d_X11_isWord_7) hgz (s_callV C0 hE (c_X11_wordHere l) wg1391 wg1388 wg1390 ws89 wg12 ⟨by decide, by decide⟩ (by decide +kernel) (c0 := 11) rfl ⟨by decide, by decide⟩ ⟨by decide, by decide⟩ (d_X11_isWord_8) (fun x hx => (hno x hx).elim) ⟨by decide, by decide⟩ ⟨by decide, by decide⟩ (s_lln C0 (d_X11_isWord_11) hgz (s_lcmp C0 (d_X11_isWord_12) hgz (s_zne C0 (d_X11_isWord_13) (by decide) hgz hgz (fun _ _ _ h => h) (s_ic C0 (d_X11_isWord_16) hgz (s_goto C0 (tgt := 21) (d_X11_isWord_17) (by decide) hgz (fun _ _ _ h => h)) (okn rfl))))))))),
  s_ic C0 (d_X11_isWord_20) hgz (fun _ _ _ h => h) (okn rfl),
  s_rz C0 hr (d_X11_isWord_21) ⟨by decide, by decide⟩⟩
theorem c_X11_isWord (l : Launch) : Ctr l yX11_isWord cX11_isWord 3 (some .boolean) 13 264 0 (fun sx => (nf G_X11_isWord)) := ctr_of (by decide) gz gz ⟨rfl, rfl⟩ (fun p e s m args below meth c D ca ad sx sy A Q as M C0 hE hr hno hF => P_X11_isWord (L_X11_isWord C0 hE hr hno) hF)
theorem d_X11_six_0 : decode cX11_six 0 = .ok (.ldc2_w 144, 3) := by decide +kernel
theorem d_X11_six_3 : decode cX11_six 3 = .ok (.ldc2_w 144, 3) := by decide +kernel
theorem d_X11_six_6 : decode cX11_six 6 = .ok (.iload_n 0, 1) := by decide +kernel
theorem d_X11_six_7 : decode cX11_six 7 = .ok (.i2l, 1) := by decide +kernel
theorem d_X11_six_8 : decode cX11_six 8 = .ok (.lmul, 1) := by decide +kernel
theorem d_X11_six_9 : decode cX11_six 9 = .ok (.iload_n 1, 1) := by decide +kernel
theorem d_X11_six_10 : decode cX11_six 10 = .ok (.i2l, 1) := by decide +kernel
theorem d_X11_six_11 : decode cX11_six 11 = .ok (.ladd, 1) := by decide +kernel
theorem d_X11_six_12 : decode cX11_six 12 = .ok (.lmul, 1) := by decide +kernel
theorem d_X11_six_13 : decode cX11_six 13 = .ok (.iload_n 2, 1) := by decide +kernel
theorem d_X11_six_14 : decode cX11_six 14 = .ok (.i2l, 1) := by decide +kernel
theorem d_X11_six_15 : decode cX11_six 15 = .ok (.ladd, 1) := by decide +kernel
theorem d_X11_six_16 : decode cX11_six 16 = .ok (.lstore 6, 2) := by decide +kernel
theorem d_X11_six_18 : decode cX11_six 18 = .ok (.iload_n 3, 1) := by decide +kernel
theorem d_X11_six_19 : decode cX11_six 19 = .ok (.ifCond .ne 8, 3) := by decide +kernel
theorem d_X11_six_22 : decode cX11_six 22 = .ok (.lload 6, 2) := by decide +kernel
theorem d_X11_six_24 : decode cX11_six 24 = .ok (.goto 12, 3) := by decide +kernel
theorem d_X11_six_27 : decode cX11_six 27 = .ok (.ldc2_w 144, 3) := by decide +kernel
theorem d_X11_six_30 : decode cX11_six 30 = .ok (.lload 6, 2) := by decide +kernel
theorem d_X11_six_32 : decode cX11_six 32 = .ok (.lmul, 1) := by decide +kernel
theorem d_X11_six_33 : decode cX11_six 33 = .ok (.iload_n 3, 1) := by decide +kernel
theorem d_X11_six_34 : decode cX11_six 34 = .ok (.i2l, 1) := by decide +kernel
theorem d_X11_six_35 : decode cX11_six 35 = .ok (.ladd, 1) := by decide +kernel
theorem d_X11_six_36 : decode cX11_six 36 = .ok (.lstore 6, 2) := by decide +kernel
theorem d_X11_six_38 : decode cX11_six 38 = .ok (.iload 4, 2) := by decide +kernel
theorem d_X11_six_40 : decode cX11_six 40 = .ok (.ifCond .ne 8, 3) := by decide +kernel
theorem d_X11_six_43 : decode cX11_six 43 = .ok (.lload 6, 2) := by decide +kernel
theorem d_X11_six_45 : decode cX11_six 45 = .ok (.goto 13, 3) := by decide +kernel
theorem d_X11_six_48 : decode cX11_six 48 = .ok (.ldc2_w 144, 3) := by decide +kernel
theorem d_X11_six_51 : decode cX11_six 51 = .ok (.lload 6, 2) := by decide +kernel
theorem d_X11_six_53 : decode cX11_six 53 = .ok (.lmul, 1) := by decide +kernel
theorem d_X11_six_54 : decode cX11_six 54 = .ok (.iload 4, 2) := by decide +kernel
theorem d_X11_six_56 : decode cX11_six 56 = .ok (.i2l, 1) := by decide +kernel
theorem d_X11_six_57 : decode cX11_six 57 = .ok (.ladd, 1) := by decide +kernel
theorem d_X11_six_58 : decode cX11_six 58 = .ok (.lstore 6, 2) := by decide +kernel
theorem d_X11_six_60 : decode cX11_six 60 = .ok (.iload 5, 2) := by decide +kernel
theorem d_X11_six_62 : decode cX11_six 62 = .ok (.ifCond .ne 8, 3) := by decide +kernel
theorem d_X11_six_65 : decode cX11_six 65 = .ok (.lload 6, 2) := by decide +kernel
theorem d_X11_six_67 : decode cX11_six 67 = .ok (.goto 13, 3) := by decide +kernel
theorem d_X11_six_70 : decode cX11_six 70 = .ok (.ldc2_w 144, 3) := by decide +kernel
theorem d_X11_six_73 : decode cX11_six 73 = .ok (.lload 6, 2) := by decide +kernel
theorem d_X11_six_75 : decode cX11_six 75 = .ok (.lmul, 1) := by decide +kernel
theorem d_X11_six_76 : decode cX11_six 76 = .ok (.iload 5, 2) := by decide +kernel
theorem d_X11_six_78 : decode cX11_six 78 = .ok (.i2l, 1) := by decide +kernel
theorem d_X11_six_79 : decode cX11_six 79 = .ok (.ladd, 1) := by decide +kernel
theorem d_X11_six_80 : decode cX11_six 80 = .ok (.lreturn, 1) := by decide +kernel
set_option maxRecDepth 100000 in
theorem L_X11_six {p : Program} {l : Launch} {e : Env} {s : State} {m : MethodId} {args : Array Value} {below : List Frame} {meth : Method} {c : Code} {D : va_G} {ca : Nat → ClassId} {ad sx sy : Nat → Nat} {A : Nat → Prop} {Q : QT} (C0 : CX p s m args meth c cX11_six 8 yX11_six.cls D ca ad A) (hE : EX sx sy A s s.heap) (hr : meth.sig.returnType = (some .long)) (hno : ∀ x ∈ c.exceptionTable.toList, False) : R_X11_six (JW p l e { frames := 10, cells := 0, slots := 6 * 0, locals := 200 } s m args below meth c 8 D ca ad A (vx_MQ below (Qn D ca ad A Q) (Qx D ca ad A Q) args s 0 (6 * 0) A) gz gz true) Q := ⟨s_ldc2 C0 (n := 27) wg1383 (d_X11_six_0) hgz (s_ldc2 C0 (n := 27) wg1383 (d_X11_six_3) hgz (s_iln C0 (d_X11_six_6) hgz (s_i2l C0 (d_X11_six_7) hgz (s_lmul C0 (d_X11_six_8) hgz (s_iln C0 (d_X11_six_9) hgz (s_i2l C0 (d_X11_six_10) hgz (s_ladd C0 (d_X11_six_11) hgz (s_lmul C0 (d_X11_six_12) hgz (s_iln C0 (d_X11_six_13) hgz (s_i2l C0 (d_X11_six_14) hgz (s_ladd C0 (d_X11_six_15) hgz (s_ls C0 (d_X11_six_16) hgz (s_iln C0 (d_X11_six_18) hgz (s_zne C0 (d_X11_six_19) (by decide) hgz hgz (fun _ _ _ h => h) (s_ll C0 (d_X11_six_22) hgz (s_goto C0 (tgt := 36) (d_X11_six_24) (by decide) hgz (fun _ _ _ h => h)))))))))))))))) (okn2 rfl)) (okn2 rfl),
  s_ldc2 C0 (n := 27) wg1383 (d_X11_six_27) hgz (s_ll C0 (d_X11_six_30) hgz (s_lmul C0 (d_X11_six_32) hgz (s_iln C0 (d_X11_six_33) hgz (s_i2l C0 (d_X11_six_34) hgz (s_ladd C0 (d_X11_six_35) hgz (fun _ _ _ h => h)))))) (okn2 rfl),
  s_ls C0 (d_X11_six_36) hgz (s_il C0 (d_X11_six_38) hgz (s_zne C0 (d_X11_six_40) (by decide) hgz hgz (fun _ _ _ h => h) (s_ll C0 (d_X11_six_43) hgz (s_goto C0 (tgt := 58) (d_X11_six_45) (by decide) hgz (fun _ _ _ h => h))))),
  s_ldc2 C0 (n := 27) wg1383 (d_X11_six_48) hgz (s_ll C0 (d_X11_six_51) hgz (s_lmul C0 (d_X11_six_53) hgz (s_il C0 (d_X11_six_54) hgz (s_i2l C0 (d_X11_six_56) hgz (s_ladd C0 (d_X11_six_57) hgz (fun _ _ _ h => h)))))) (okn2 rfl),
  s_ls C0 (d_X11_six_58) hgz (s_il C0 (d_X11_six_60) hgz (s_zne C0 (d_X11_six_62) (by decide) hgz hgz (fun _ _ _ h => h) (s_ll C0 (d_X11_six_65) hgz (s_goto C0 (tgt := 80) (d_X11_six_67) (by decide) hgz (fun _ _ _ h => h))))),
  s_ldc2 C0 (n := 27) wg1383 (d_X11_six_70) hgz (s_ll C0 (d_X11_six_73) hgz (s_lmul C0 (d_X11_six_75) hgz (s_il C0 (d_X11_six_76) hgz (s_i2l C0 (d_X11_six_78) hgz (s_ladd C0 (d_X11_six_79) hgz (fun _ _ _ h => h)))))) (okn2 rfl),
  s_rl C0 hr (d_X11_six_80) ⟨by decide, by decide⟩⟩
theorem c_X11_six (l : Launch) : Ctr l yX11_six cX11_six 8 (some .long) 10 200 0 (fun sx => (nf G_X11_six)) := ctr_of (by decide) gz gz ⟨rfl, rfl⟩ (fun p e s m args below meth c D ca ad sx sy A Q as M C0 hE hr hno hF => P_X11_six (L_X11_six C0 hE hr hno) hF)
theorem wg1387 : Cond.code ⟨"WeighedHallModel", "isWord", "(J)Z"⟩ prog_13_method_13_code 3 (Option.some .boolean) ∈ GT := gt_mem 1507 (by decide +kernel) rfl
theorem wg1384 : Cond.methodLink "WeighedHallModel" 161 ⟨"WeighedHallModel", "isWord", "(J)Z"⟩ ∈ GT := gt_mem 1504 (by decide +kernel) rfl
theorem wg1386 : Cond.instanceMethod ⟨"WeighedHallModel", "isWord", "(J)Z"⟩ ∈ GT := gt_mem 1506 (by decide +kernel) rfl
theorem ws88 : Cond.selects "WeighedHallModel" ⟨"WeighedHallModel", "isWord", "(J)Z"⟩ ⟨"WeighedHallModel", "isWord", "(J)Z"⟩ ∈ GT := gt_mem 88 (by decide +kernel) rfl
theorem wg1382 : Cond.code ⟨"WeighedHallModel", "six", "(IIIIII)J"⟩ prog_13_method_12_code 8 (Option.some .long) ∈ GT := gt_mem 1502 (by decide +kernel) rfl
theorem wg1380 : Cond.methodLink "WeighedHallModel" 157 ⟨"WeighedHallModel", "six", "(IIIIII)J"⟩ ∈ GT := gt_mem 1500 (by decide +kernel) rfl
theorem wg1381 : Cond.static ⟨"WeighedHallModel", "six", "(IIIIII)J"⟩ ∈ GT := gt_mem 1501 (by decide +kernel) rfl
theorem wg1394 : Cond.constantLong "WeighedHallModel" 165 5 ∈ GT := gt_mem 1514 (by decide +kernel) rfl
theorem d_X11_kindHere_0 : decode cX11_kindHere 0 = .ok (.aload_n 0, 1) := by decide +kernel
theorem d_X11_kindHere_1 : decode cX11_kindHere 1 = .ok (.bipush 16, 2) := by decide +kernel
theorem d_X11_kindHere_3 : decode cX11_kindHere 3 = .ok (.iconst 5, 1) := by decide +kernel
theorem d_X11_kindHere_4 : decode cX11_kindHere 4 = .ok (.bipush 18, 2) := by decide +kernel
theorem d_X11_kindHere_6 : decode cX11_kindHere 6 = .ok (.bipush 19, 2) := by decide +kernel
theorem d_X11_kindHere_8 : decode cX11_kindHere 8 = .ok (.bipush 15, 2) := by decide +kernel
theorem d_X11_kindHere_10 : decode cX11_kindHere 10 = .ok (.bipush 14, 2) := by decide +kernel
theorem d_X11_kindHere_12 : decode cX11_kindHere 12 = .ok (.invokestatic 157, 3) := by decide +kernel
theorem d_X11_kindHere_15 : decode cX11_kindHere 15 = .ok (.invokevirtual 161, 3) := by decide +kernel
theorem d_X11_kindHere_18 : decode cX11_kindHere 18 = .ok (.ifCond .eq 5, 3) := by decide +kernel
theorem d_X11_kindHere_21 : decode cX11_kindHere 21 = .ok (.iconst 0, 1) := by decide +kernel
theorem d_X11_kindHere_22 : decode cX11_kindHere 22 = .ok (.ireturn, 1) := by decide +kernel
theorem d_X11_kindHere_23 : decode cX11_kindHere 23 = .ok (.aload_n 0, 1) := by decide +kernel
theorem d_X11_kindHere_24 : decode cX11_kindHere 24 = .ok (.bipush 20, 2) := by decide +kernel
theorem d_X11_kindHere_26 : decode cX11_kindHere 26 = .ok (.bipush 8, 2) := by decide +kernel
theorem d_X11_kindHere_28 : decode cX11_kindHere 28 = .ok (.bipush 9, 2) := by decide +kernel
theorem d_X11_kindHere_30 : decode cX11_kindHere 30 = .ok (.bipush 14, 2) := by decide +kernel
theorem d_X11_kindHere_32 : decode cX11_kindHere 32 = .ok (.bipush 7, 2) := by decide +kernel
theorem d_X11_kindHere_34 : decode cX11_kindHere 34 = .ok (.iconst 0, 1) := by decide +kernel
theorem d_X11_kindHere_35 : decode cX11_kindHere 35 = .ok (.invokestatic 157, 3) := by decide +kernel
theorem d_X11_kindHere_38 : decode cX11_kindHere 38 = .ok (.invokevirtual 161, 3) := by decide +kernel
theorem d_X11_kindHere_41 : decode cX11_kindHere 41 = .ok (.ifCond .eq 5, 3) := by decide +kernel
theorem d_X11_kindHere_44 : decode cX11_kindHere 44 = .ok (.iconst 1, 1) := by decide +kernel
theorem d_X11_kindHere_45 : decode cX11_kindHere 45 = .ok (.ireturn, 1) := by decide +kernel
theorem d_X11_kindHere_46 : decode cX11_kindHere 46 = .ok (.aload_n 0, 1) := by decide +kernel
theorem d_X11_kindHere_47 : decode cX11_kindHere 47 = .ok (.iconst 4, 1) := by decide +kernel
theorem d_X11_kindHere_48 : decode cX11_kindHere 48 = .ok (.bipush 15, 2) := by decide +kernel
theorem d_X11_kindHere_50 : decode cX11_kindHere 50 = .ok (.bipush 15, 2) := by decide +kernel
theorem d_X11_kindHere_52 : decode cX11_kindHere 52 = .ok (.bipush 18, 2) := by decide +kernel
theorem d_X11_kindHere_54 : decode cX11_kindHere 54 = .ok (.iconst 0, 1) := by decide +kernel
theorem d_X11_kindHere_55 : decode cX11_kindHere 55 = .ok (.iconst 0, 1) := by decide +kernel
theorem d_X11_kindHere_56 : decode cX11_kindHere 56 = .ok (.invokestatic 157, 3) := by decide +kernel
theorem d_X11_kindHere_59 : decode cX11_kindHere 59 = .ok (.invokevirtual 161, 3) := by decide +kernel
theorem d_X11_kindHere_62 : decode cX11_kindHere 62 = .ok (.ifCond .eq 5, 3) := by decide +kernel
theorem d_X11_kindHere_65 : decode cX11_kindHere 65 = .ok (.iconst 2, 1) := by decide +kernel
theorem d_X11_kindHere_66 : decode cX11_kindHere 66 = .ok (.ireturn, 1) := by decide +kernel
theorem d_X11_kindHere_67 : decode cX11_kindHere 67 = .ok (.aload_n 0, 1) := by decide +kernel
theorem d_X11_kindHere_68 : decode cX11_kindHere 68 = .ok (.bipush 13, 2) := by decide +kernel
theorem d_X11_kindHere_70 : decode cX11_kindHere 70 = .ok (.bipush 15, 2) := by decide +kernel
theorem d_X11_kindHere_72 : decode cX11_kindHere 72 = .ok (.bipush 20, 2) := by decide +kernel
theorem d_X11_kindHere_74 : decode cX11_kindHere 74 = .ok (.bipush 9, 2) := by decide +kernel
theorem d_X11_kindHere_76 : decode cX11_kindHere 76 = .ok (.bipush 15, 2) := by decide +kernel
theorem d_X11_kindHere_78 : decode cX11_kindHere 78 = .ok (.bipush 14, 2) := by decide +kernel
theorem d_X11_kindHere_80 : decode cX11_kindHere 80 = .ok (.invokestatic 157, 3) := by decide +kernel
theorem d_X11_kindHere_83 : decode cX11_kindHere 83 = .ok (.invokevirtual 161, 3) := by decide +kernel
theorem d_X11_kindHere_86 : decode cX11_kindHere 86 = .ok (.ifCond .eq 5, 3) := by decide +kernel
theorem d_X11_kindHere_89 : decode cX11_kindHere 89 = .ok (.iconst 3, 1) := by decide +kernel
theorem d_X11_kindHere_90 : decode cX11_kindHere 90 = .ok (.ireturn, 1) := by decide +kernel
theorem d_X11_kindHere_91 : decode cX11_kindHere 91 = .ok (.aload_n 0, 1) := by decide +kernel
theorem d_X11_kindHere_92 : decode cX11_kindHere 92 = .ok (.bipush 12, 2) := by decide +kernel
theorem d_X11_kindHere_94 : decode cX11_kindHere 94 = .ok (.iconst 1, 1) := by decide +kernel
theorem d_X11_kindHere_95 : decode cX11_kindHere 95 = .ok (.bipush 23, 2) := by decide +kernel
theorem d_X11_kindHere_97 : decode cX11_kindHere 97 = .ok (.iconst 0, 1) := by decide +kernel
theorem d_X11_kindHere_98 : decode cX11_kindHere 98 = .ok (.iconst 0, 1) := by decide +kernel
theorem d_X11_kindHere_99 : decode cX11_kindHere 99 = .ok (.iconst 0, 1) := by decide +kernel
theorem d_X11_kindHere_100 : decode cX11_kindHere 100 = .ok (.invokestatic 157, 3) := by decide +kernel
theorem d_X11_kindHere_103 : decode cX11_kindHere 103 = .ok (.invokevirtual 161, 3) := by decide +kernel
theorem d_X11_kindHere_106 : decode cX11_kindHere 106 = .ok (.ifCond .eq 5, 3) := by decide +kernel
theorem d_X11_kindHere_109 : decode cX11_kindHere 109 = .ok (.iconst 4, 1) := by decide +kernel
theorem d_X11_kindHere_110 : decode cX11_kindHere 110 = .ok (.ireturn, 1) := by decide +kernel
theorem d_X11_kindHere_111 : decode cX11_kindHere 111 = .ok (.aload_n 0, 1) := by decide +kernel
theorem d_X11_kindHere_112 : decode cX11_kindHere 112 = .ok (.ldc2_w 144, 3) := by decide +kernel
theorem d_X11_kindHere_115 : decode cX11_kindHere 115 = .ok (.bipush 15, 2) := by decide +kernel
theorem d_X11_kindHere_117 : decode cX11_kindHere 117 = .ok (.bipush 21, 2) := by decide +kernel
theorem d_X11_kindHere_119 : decode cX11_kindHere 119 = .ok (.bipush 20, 2) := by decide +kernel
theorem d_X11_kindHere_121 : decode cX11_kindHere 121 = .ok (.bipush 19, 2) := by decide +kernel
theorem d_X11_kindHere_123 : decode cX11_kindHere 123 = .ok (.bipush 9, 2) := by decide +kernel
theorem d_X11_kindHere_125 : decode cX11_kindHere 125 = .ok (.iconst 4, 1) := by decide +kernel
theorem d_X11_kindHere_126 : decode cX11_kindHere 126 = .ok (.invokestatic 157, 3) := by decide +kernel
theorem d_X11_kindHere_129 : decode cX11_kindHere 129 = .ok (.lmul, 1) := by decide +kernel
theorem d_X11_kindHere_130 : decode cX11_kindHere 130 = .ok (.ldc2_w 165, 3) := by decide +kernel
theorem d_X11_kindHere_133 : decode cX11_kindHere 133 = .ok (.ladd, 1) := by decide +kernel
theorem d_X11_kindHere_134 : decode cX11_kindHere 134 = .ok (.invokevirtual 161, 3) := by decide +kernel
theorem d_X11_kindHere_137 : decode cX11_kindHere 137 = .ok (.ifCond .eq 7, 3) := by decide +kernel
theorem d_X11_kindHere_140 : decode cX11_kindHere 140 = .ok (.iconst 5, 1) := by decide +kernel
theorem d_X11_kindHere_141 : decode cX11_kindHere 141 = .ok (.goto 4, 3) := by decide +kernel
theorem d_X11_kindHere_144 : decode cX11_kindHere 144 = .ok (.iconst (-1), 1) := by decide +kernel
theorem d_X11_kindHere_145 : decode cX11_kindHere 145 = .ok (.ireturn, 1) := by decide +kernel
set_option maxRecDepth 100000 in
theorem L_X11_kindHere {p : Program} {l : Launch} {e : Env} {s : State} {m : MethodId} {args : Array Value} {below : List Frame} {meth : Method} {c : Code} {D : va_G} {ca : Nat → ClassId} {ad sx sy : Nat → Nat} {A : Nat → Prop} {Q : QT} (C0 : CX p s m args meth c cX11_kindHere 1 yX11_kindHere.cls D ca ad A) (hE : EX sx sy A s s.heap) (hr : meth.sig.returnType = (some .int)) (hno : ∀ x ∈ c.exceptionTable.toList, False) : R_X11_kindHere (JW p l e { frames := 14, cells := 0, slots := 6 * 0, locals := 286 } s m args below meth c 1 D ca ad A (vx_MQ below (Qn D ca ad A Q) (Qx D ca ad A Q) args s 0 (6 * 0) A) gz gz true) Q := ⟨s_aln C0 (d_X11_kindHere_0) hgz (s_bi C0 (d_X11_kindHere_1) hgz (s_ic C0 (d_X11_kindHere_3) hgz (s_bi C0 (d_X11_kindHere_4) hgz (s_bi C0 (d_X11_kindHere_6) hgz (s_bi C0 (d_X11_kindHere_8) hgz (s_bi C0 (d_X11_kindHere_10) hgz (s_callS C0 hE (c_X11_six l) wg1382 wg1380 wg1381 wg12 ⟨by decide, by decide⟩ (by decide +kernel) ⟨by decide, by decide⟩ ⟨by decide, by decide⟩ (d_X11_kindHere_12) (fun x hx => (hno x hx).elim) ⟨by decide, by decide⟩ ⟨by decide, by decide⟩ (s_callV C0 hE (c_X11_isWord l) wg1387 wg1384 wg1386 ws88 wg12 ⟨by decide, by decide⟩ (by decide +kernel) (c0 := 11) rfl ⟨by decide, by decide⟩ ⟨by decide, by decide⟩ (d_X11_kindHere_15) (fun x hx => (hno x hx).elim) ⟨by decide, by decide⟩ ⟨by decide, by decide⟩ (s_zeq C0 (d_X11_kindHere_18) (by decide) hgz hgz (fun _ _ _ h => h) (s_ic C0 (d_X11_kindHere_21) hgz (s_ri C0 hr (d_X11_kindHere_22) ⟨by decide, by decide⟩) (okn rfl))))) (okn rfl) rfl) (okn rfl) rfl) (okn rfl) rfl) (okn rfl) rfl) (okn rfl)) (okn rfl) rfl),
  s_aln C0 (d_X11_kindHere_23) hgz (s_bi C0 (d_X11_kindHere_24) hgz (s_bi C0 (d_X11_kindHere_26) hgz (s_bi C0 (d_X11_kindHere_28) hgz (s_bi C0 (d_X11_kindHere_30) hgz (s_bi C0 (d_X11_kindHere_32) hgz (s_ic C0 (d_X11_kindHere_34) hgz (s_callS C0 hE (c_X11_six l) wg1382 wg1380 wg1381 wg12 ⟨by decide, by decide⟩ (by decide +kernel) ⟨by decide, by decide⟩ ⟨by decide, by decide⟩ (d_X11_kindHere_35) (fun x hx => (hno x hx).elim) ⟨by decide, by decide⟩ ⟨by decide, by decide⟩ (s_callV C0 hE (c_X11_isWord l) wg1387 wg1384 wg1386 ws88 wg12 ⟨by decide, by decide⟩ (by decide +kernel) (c0 := 11) rfl ⟨by decide, by decide⟩ ⟨by decide, by decide⟩ (d_X11_kindHere_38) (fun x hx => (hno x hx).elim) ⟨by decide, by decide⟩ ⟨by decide, by decide⟩ (s_zeq C0 (d_X11_kindHere_41) (by decide) hgz hgz (fun _ _ _ h => h) (s_ic C0 (d_X11_kindHere_44) hgz (s_ri C0 hr (d_X11_kindHere_45) ⟨by decide, by decide⟩) (okn rfl))))) (okn rfl)) (okn rfl) rfl) (okn rfl) rfl) (okn rfl) rfl) (okn rfl) rfl) (okn rfl) rfl),
  s_aln C0 (d_X11_kindHere_46) hgz (s_ic C0 (d_X11_kindHere_47) hgz (s_bi C0 (d_X11_kindHere_48) hgz (s_bi C0 (d_X11_kindHere_50) hgz (s_bi C0 (d_X11_kindHere_52) hgz (s_ic C0 (d_X11_kindHere_54) hgz (s_ic C0 (d_X11_kindHere_55) hgz (s_callS C0 hE (c_X11_six l) wg1382 wg1380 wg1381 wg12 ⟨by decide, by decide⟩ (by decide +kernel) ⟨by decide, by decide⟩ ⟨by decide, by decide⟩ (d_X11_kindHere_56) (fun x hx => (hno x hx).elim) ⟨by decide, by decide⟩ ⟨by decide, by decide⟩ (s_callV C0 hE (c_X11_isWord l) wg1387 wg1384 wg1386 ws88 wg12 ⟨by decide, by decide⟩ (by decide +kernel) (c0 := 11) rfl ⟨by decide, by decide⟩ ⟨by decide, by decide⟩ (d_X11_kindHere_59) (fun x hx => (hno x hx).elim) ⟨by decide, by decide⟩ ⟨by decide, by decide⟩ (s_zeq C0 (d_X11_kindHere_62) (by decide) hgz hgz (fun _ _ _ h => h) (s_ic C0 (d_X11_kindHere_65) hgz (s_ri C0 hr (d_X11_kindHere_66) ⟨by decide, by decide⟩) (okn rfl))))) (okn rfl)) (okn rfl)) (okn rfl) rfl) (okn rfl) rfl) (okn rfl) rfl) (okn rfl)),
  s_aln C0 (d_X11_kindHere_67) hgz (s_bi C0 (d_X11_kindHere_68) hgz (s_bi C0 (d_X11_kindHere_70) hgz (s_bi C0 (d_X11_kindHere_72) hgz (s_bi C0 (d_X11_kindHere_74) hgz (s_bi C0 (d_X11_kindHere_76) hgz (s_bi C0 (d_X11_kindHere_78) hgz (s_callS C0 hE (c_X11_six l) wg1382 wg1380 wg1381 wg12 ⟨by decide, by decide⟩ (by decide +kernel) ⟨by decide, by decide⟩ ⟨by decide, by decide⟩ (d_X11_kindHere_80) (fun x hx => (hno x hx).elim) ⟨by decide, by decide⟩ ⟨by decide, by decide⟩ (s_callV C0 hE (c_X11_isWord l) wg1387 wg1384 wg1386 ws88 wg12 ⟨by decide, by decide⟩ (by decide +kernel) (c0 := 11) rfl ⟨by decide, by decide⟩ ⟨by decide, by decide⟩ (d_X11_kindHere_83) (fun x hx => (hno x hx).elim) ⟨by decide, by decide⟩ ⟨by decide, by decide⟩ (s_zeq C0 (d_X11_kindHere_86) (by decide) hgz hgz (fun _ _ _ h => h) (s_ic C0 (d_X11_kindHere_89) hgz (s_ri C0 hr (d_X11_kindHere_90) ⟨by decide, by decide⟩) (okn rfl))))) (okn rfl) rfl) (okn rfl) rfl) (okn rfl) rfl) (okn rfl) rfl) (okn rfl) rfl) (okn rfl) rfl),
  s_aln C0 (d_X11_kindHere_91) hgz (s_bi C0 (d_X11_kindHere_92) hgz (s_ic C0 (d_X11_kindHere_94) hgz (s_bi C0 (d_X11_kindHere_95) hgz (s_ic C0 (d_X11_kindHere_97) hgz (s_ic C0 (d_X11_kindHere_98) hgz (s_ic C0 (d_X11_kindHere_99) hgz (s_callS C0 hE (c_X11_six l) wg1382 wg1380 wg1381 wg12 ⟨by decide, by decide⟩ (by decide +kernel) ⟨by decide, by decide⟩ ⟨by decide, by decide⟩ (d_X11_kindHere_100) (fun x hx => (hno x hx).elim) ⟨by decide, by decide⟩ ⟨by decide, by decide⟩ (s_callV C0 hE (c_X11_isWord l) wg1387 wg1384 wg1386 ws88 wg12 ⟨by decide, by decide⟩ (by decide +kernel) (c0 := 11) rfl ⟨by decide, by decide⟩ ⟨by decide, by decide⟩ (d_X11_kindHere_103) (fun x hx => (hno x hx).elim) ⟨by decide, by decide⟩ ⟨by decide, by decide⟩ (s_zeq C0 (d_X11_kindHere_106) (by decide) hgz hgz (fun _ _ _ h => h) (s_ic C0 (d_X11_kindHere_109) hgz (s_ri C0 hr (d_X11_kindHere_110) ⟨by decide, by decide⟩) (okn rfl))))) (okn rfl)) (okn rfl)) (okn rfl)) (okn rfl) rfl) (okn rfl)) (okn rfl) rfl),
  s_aln C0 (d_X11_kindHere_111) hgz (s_ldc2 C0 (n := 27) wg1383 (d_X11_kindHere_112) hgz (s_bi C0 (d_X11_kindHere_115) hgz (s_bi C0 (d_X11_kindHere_117) hgz (s_bi C0 (d_X11_kindHere_119) hgz (s_bi C0 (d_X11_kindHere_121) hgz (s_bi C0 (d_X11_kindHere_123) hgz (s_ic C0 (d_X11_kindHere_125) hgz (s_callS C0 hE (c_X11_six l) wg1382 wg1380 wg1381 wg12 ⟨by decide, by decide⟩ (by decide +kernel) ⟨by decide, by decide⟩ ⟨by decide, by decide⟩ (d_X11_kindHere_126) (fun x hx => (hno x hx).elim) ⟨by decide, by decide⟩ ⟨by decide, by decide⟩ (s_lmul C0 (d_X11_kindHere_129) hgz (s_ldc2 C0 (n := 5) wg1394 (d_X11_kindHere_130) hgz (s_ladd C0 (d_X11_kindHere_133) hgz (s_callV C0 hE (c_X11_isWord l) wg1387 wg1384 wg1386 ws88 wg12 ⟨by decide, by decide⟩ (by decide +kernel) (c0 := 11) rfl ⟨by decide, by decide⟩ ⟨by decide, by decide⟩ (d_X11_kindHere_134) (fun x hx => (hno x hx).elim) ⟨by decide, by decide⟩ ⟨by decide, by decide⟩ (s_zeq C0 (d_X11_kindHere_137) (by decide) hgz hgz (fun _ _ _ h => h) (s_ic C0 (d_X11_kindHere_140) hgz (s_goto C0 (tgt := 145) (d_X11_kindHere_141) (by decide) hgz (fun _ _ _ h => h)) (okn rfl))))) (okn2 rfl)))) (okn rfl)) (okn rfl) rfl) (okn rfl) rfl) (okn rfl) rfl) (okn rfl) rfl) (okn rfl) rfl) (okn2 rfl)),
  s_ic C0 (d_X11_kindHere_144) hgz (fun _ _ _ h => h) (okn rfl),
  s_ri C0 hr (d_X11_kindHere_145) ⟨by decide, by decide⟩⟩
theorem c_X11_kindHere (l : Launch) : Ctr l yX11_kindHere cX11_kindHere 1 (some .int) 14 286 0 (fun sx => (nf G_X11_kindHere)) := ctr_of (by decide) gz gz ⟨rfl, rfl⟩ (fun p e s m args below meth c D ca ad sx sy A Q as M C0 hE hr hno hF => P_X11_kindHere (L_X11_kindHere C0 hE hr hno) hF)
theorem d_X11_isDigit_0 : decode cX11_isDigit 0 = .ok (.iload_n 0, 1) := by decide +kernel
theorem d_X11_isDigit_1 : decode cX11_isDigit 1 = .ok (.bipush 48, 2) := by decide +kernel
theorem d_X11_isDigit_3 : decode cX11_isDigit 3 = .ok (.if_icmp .lt 13, 3) := by decide +kernel
theorem d_X11_isDigit_6 : decode cX11_isDigit 6 = .ok (.iload_n 0, 1) := by decide +kernel
theorem d_X11_isDigit_7 : decode cX11_isDigit 7 = .ok (.bipush 57, 2) := by decide +kernel
theorem d_X11_isDigit_9 : decode cX11_isDigit 9 = .ok (.if_icmp .gt 7, 3) := by decide +kernel
theorem d_X11_isDigit_12 : decode cX11_isDigit 12 = .ok (.iconst 1, 1) := by decide +kernel
theorem d_X11_isDigit_13 : decode cX11_isDigit 13 = .ok (.goto 4, 3) := by decide +kernel
theorem d_X11_isDigit_16 : decode cX11_isDigit 16 = .ok (.iconst 0, 1) := by decide +kernel
theorem d_X11_isDigit_17 : decode cX11_isDigit 17 = .ok (.ireturn, 1) := by decide +kernel
set_option maxRecDepth 100000 in
theorem L_X11_isDigit {p : Program} {l : Launch} {e : Env} {s : State} {m : MethodId} {args : Array Value} {below : List Frame} {meth : Method} {c : Code} {D : va_G} {ca : Nat → ClassId} {ad sx sy : Nat → Nat} {A : Nat → Prop} {Q : QT} (C0 : CX p s m args meth c cX11_isDigit 1 yX11_isDigit.cls D ca ad A) (hE : EX sx sy A s s.heap) (hr : meth.sig.returnType = (some .boolean)) (hno : ∀ x ∈ c.exceptionTable.toList, False) : R_X11_isDigit (JW p l e { frames := 10, cells := 0, slots := 6 * 0, locals := 200 } s m args below meth c 1 D ca ad A (vx_MQ below (Qn D ca ad A Q) (Qx D ca ad A Q) args s 0 (6 * 0) A) gz gz true) Q := ⟨s_iln C0 (d_X11_isDigit_0) hgz (s_bi C0 (d_X11_isDigit_1) hgz (s_clt C0 (d_X11_isDigit_3) (by decide) hgz hgz (fun _ _ _ h => h) (s_iln C0 (d_X11_isDigit_6) hgz (s_bi C0 (d_X11_isDigit_7) hgz (s_cgt C0 (d_X11_isDigit_9) (by decide) hgz hgz (fun _ _ _ h => h) (s_ic C0 (d_X11_isDigit_12) hgz (s_goto C0 (tgt := 17) (d_X11_isDigit_13) (by decide) hgz (fun _ _ _ h => h)) (okn rfl))) (okn rfl) rfl))) (okn rfl) rfl),
  s_ic C0 (d_X11_isDigit_16) hgz (fun _ _ _ h => h) (okn rfl),
  s_rz C0 hr (d_X11_isDigit_17) ⟨by decide, by decide⟩⟩
theorem c_X11_isDigit (l : Launch) : Ctr l yX11_isDigit cX11_isDigit 1 (some .boolean) 10 200 0 (fun sx => (nf G_X11_isDigit)) := ctr_of (by decide) gz gz ⟨rfl, rfl⟩ (fun p e s m args below meth c D ca ad sx sy A Q as M C0 hE hr hno hF => P_X11_isDigit (L_X11_isDigit C0 hE hr hno) hF)
theorem wg1413 : Cond.code ⟨"WeighedHallModel", "isDigit", "(I)Z"⟩ prog_13_method_9_code 1 (Option.some .boolean) ∈ GT := gt_mem 1533 (by decide +kernel) rfl
theorem wg1411 : Cond.methodLink "WeighedHallModel" 131 ⟨"WeighedHallModel", "isDigit", "(I)Z"⟩ ∈ GT := gt_mem 1531 (by decide +kernel) rfl
theorem wg1412 : Cond.static ⟨"WeighedHallModel", "isDigit", "(I)Z"⟩ ∈ GT := gt_mem 1532 (by decide +kernel) rfl
theorem wg1414 : Cond.constant "WeighedHallModel" 139 100000 ∈ GT := gt_mem 1534 (by decide +kernel) rfl
theorem d_X11_number_0 : decode cX11_number 0 = .ok (.aload_n 0, 1) := by decide +kernel
theorem d_X11_number_1 : decode cX11_number 1 = .ok (.getfield 122, 3) := by decide +kernel
theorem d_X11_number_4 : decode cX11_number 4 = .ok (.ifCond .eq 5, 3) := by decide +kernel
theorem d_X11_number_7 : decode cX11_number 7 = .ok (.iconst 0, 1) := by decide +kernel
theorem d_X11_number_8 : decode cX11_number 8 = .ok (.ireturn, 1) := by decide +kernel
theorem d_X11_number_9 : decode cX11_number 9 = .ok (.aload_n 0, 1) := by decide +kernel
theorem d_X11_number_10 : decode cX11_number 10 = .ok (.invokevirtual 128, 3) := by decide +kernel
theorem d_X11_number_13 : decode cX11_number 13 = .ok (.aload_n 0, 1) := by decide +kernel
theorem d_X11_number_14 : decode cX11_number 14 = .ok (.getfield 115, 3) := by decide +kernel
theorem d_X11_number_17 : decode cX11_number 17 = .ok (.istore_n 3, 1) := by decide +kernel
theorem d_X11_number_18 : decode cX11_number 18 = .ok (.iconst 0, 1) := by decide +kernel
theorem d_X11_number_19 : decode cX11_number 19 = .ok (.istore 4, 2) := by decide +kernel
theorem d_X11_number_21 : decode cX11_number 21 = .ok (.aload_n 0, 1) := by decide +kernel
theorem d_X11_number_22 : decode cX11_number 22 = .ok (.aload_n 0, 1) := by decide +kernel
theorem d_X11_number_23 : decode cX11_number 23 = .ok (.getfield 115, 3) := by decide +kernel
theorem d_X11_number_26 : decode cX11_number 26 = .ok (.invokevirtual 118, 3) := by decide +kernel
theorem d_X11_number_29 : decode cX11_number 29 = .ok (.invokestatic 131, 3) := by decide +kernel
theorem d_X11_number_32 : decode cX11_number 32 = .ok (.ifCond .ne 12, 3) := by decide +kernel
theorem d_X11_number_35 : decode cX11_number 35 = .ok (.aload_n 0, 1) := by decide +kernel
theorem d_X11_number_36 : decode cX11_number 36 = .ok (.iconst 1, 1) := by decide +kernel
theorem d_X11_number_37 : decode cX11_number 37 = .ok (.aload_n 0, 1) := by decide +kernel
theorem d_X11_number_38 : decode cX11_number 38 = .ok (.getfield 115, 3) := by decide +kernel
theorem d_X11_number_41 : decode cX11_number 41 = .ok (.invokevirtual 135, 3) := by decide +kernel
theorem d_X11_number_44 : decode cX11_number 44 = .ok (.aload_n 0, 1) := by decide +kernel
theorem d_X11_number_45 : decode cX11_number 45 = .ok (.aload_n 0, 1) := by decide +kernel
theorem d_X11_number_46 : decode cX11_number 46 = .ok (.getfield 115, 3) := by decide +kernel
theorem d_X11_number_49 : decode cX11_number 49 = .ok (.invokevirtual 118, 3) := by decide +kernel
theorem d_X11_number_52 : decode cX11_number 52 = .ok (.invokestatic 131, 3) := by decide +kernel
theorem d_X11_number_55 : decode cX11_number 55 = .ok (.ifCond .eq 51, 3) := by decide +kernel
theorem d_X11_number_58 : decode cX11_number 58 = .ok (.bipush 10, 2) := by decide +kernel
theorem d_X11_number_60 : decode cX11_number 60 = .ok (.iload 4, 2) := by decide +kernel
theorem d_X11_number_62 : decode cX11_number 62 = .ok (.imul, 1) := by decide +kernel
theorem d_X11_number_63 : decode cX11_number 63 = .ok (.aload_n 0, 1) := by decide +kernel
theorem d_X11_number_64 : decode cX11_number 64 = .ok (.aload_n 0, 1) := by decide +kernel
theorem d_X11_number_65 : decode cX11_number 65 = .ok (.getfield 115, 3) := by decide +kernel
theorem d_X11_number_68 : decode cX11_number 68 = .ok (.invokevirtual 118, 3) := by decide +kernel
theorem d_X11_number_71 : decode cX11_number 71 = .ok (.iadd, 1) := by decide +kernel
theorem d_X11_number_72 : decode cX11_number 72 = .ok (.bipush 48, 2) := by decide +kernel
theorem d_X11_number_74 : decode cX11_number 74 = .ok (.isub, 1) := by decide +kernel
theorem d_X11_number_75 : decode cX11_number 75 = .ok (.istore 4, 2) := by decide +kernel
theorem d_X11_number_77 : decode cX11_number 77 = .ok (.iload 4, 2) := by decide +kernel
theorem d_X11_number_79 : decode cX11_number 79 = .ok (.ldc 139, 2) := by decide +kernel
theorem d_X11_number_81 : decode cX11_number 81 = .ok (.if_icmp .le 8, 3) := by decide +kernel
theorem d_X11_number_84 : decode cX11_number 84 = .ok (.ldc 139, 2) := by decide +kernel
theorem d_X11_number_86 : decode cX11_number 86 = .ok (.goto 5, 3) := by decide +kernel
theorem d_X11_number_89 : decode cX11_number 89 = .ok (.iload 4, 2) := by decide +kernel
theorem d_X11_number_91 : decode cX11_number 91 = .ok (.istore 4, 2) := by decide +kernel
theorem d_X11_number_93 : decode cX11_number 93 = .ok (.aload_n 0, 1) := by decide +kernel
theorem d_X11_number_94 : decode cX11_number 94 = .ok (.dup, 1) := by decide +kernel
theorem d_X11_number_95 : decode cX11_number 95 = .ok (.getfield 115, 3) := by decide +kernel
theorem d_X11_number_98 : decode cX11_number 98 = .ok (.iconst 1, 1) := by decide +kernel
theorem d_X11_number_99 : decode cX11_number 99 = .ok (.iadd, 1) := by decide +kernel
theorem d_X11_number_100 : decode cX11_number 100 = .ok (.putfield 115, 3) := by decide +kernel
theorem d_X11_number_103 : decode cX11_number 103 = .ok (.goto (-59), 3) := by decide +kernel
theorem d_X11_number_106 : decode cX11_number 106 = .ok (.iload 4, 2) := by decide +kernel
theorem d_X11_number_108 : decode cX11_number 108 = .ok (.iload_n 1, 1) := by decide +kernel
theorem d_X11_number_109 : decode cX11_number 109 = .ok (.iload_n 2, 1) := by decide +kernel
theorem d_X11_number_110 : decode cX11_number 110 = .ok (.invokestatic 140, 3) := by decide +kernel
theorem d_X11_number_113 : decode cX11_number 113 = .ok (.ifCond .ne 9, 3) := by decide +kernel
theorem d_X11_number_116 : decode cX11_number 116 = .ok (.aload_n 0, 1) := by decide +kernel
theorem d_X11_number_117 : decode cX11_number 117 = .ok (.iconst 2, 1) := by decide +kernel
theorem d_X11_number_118 : decode cX11_number 118 = .ok (.iload_n 3, 1) := by decide +kernel
theorem d_X11_number_119 : decode cX11_number 119 = .ok (.invokevirtual 135, 3) := by decide +kernel
theorem d_X11_number_122 : decode cX11_number 122 = .ok (.aload_n 0, 1) := by decide +kernel
theorem d_X11_number_123 : decode cX11_number 123 = .ok (.getfield 122, 3) := by decide +kernel
theorem d_X11_number_126 : decode cX11_number 126 = .ok (.ifCond .ne 8, 3) := by decide +kernel
theorem d_X11_number_129 : decode cX11_number 129 = .ok (.iload 4, 2) := by decide +kernel
theorem d_X11_number_131 : decode cX11_number 131 = .ok (.goto 4, 3) := by decide +kernel
theorem d_X11_number_134 : decode cX11_number 134 = .ok (.iconst 0, 1) := by decide +kernel
theorem d_X11_number_135 : decode cX11_number 135 = .ok (.ireturn, 1) := by decide +kernel
set_option maxRecDepth 100000 in
theorem L_X11_number {p : Program} {l : Launch} {e : Env} {s : State} {m : MethodId} {args : Array Value} {below : List Frame} {meth : Method} {c : Code} {D : va_G} {ca : Nat → ClassId} {ad sx sy : Nat → Nat} {A : Nat → Prop} {Q : QT} (C0 : CX p s m args meth c cX11_number 5 yX11_number.cls D ca ad A) (hE : EX sx sy A s s.heap) (hr : meth.sig.returnType = (some .int)) (hno : ∀ x ∈ c.exceptionTable.toList, False) : R_X11_number (JW p l e { frames := 12, cells := 0, slots := 6 * 0, locals := 241 } s m args below meth c 5 D ca ad A (vx_MQ below (Qn D ca ad A Q) (Qx D ca ad A Q) args s 0 (6 * 0) A) gz gz true) Q := ⟨s_aln C0 (d_X11_number_0) hgz (s_gi C0 (j := 5) (c0 := 11) rfl gX11 (by decide) rfl (by decide) wg1206 (d_X11_number_1) hgz (s_zeq C0 (d_X11_number_4) (by decide) hgz hgz (fun _ _ _ h => h) (s_ic C0 (d_X11_number_7) hgz (s_ri C0 hr (d_X11_number_8) ⟨by decide, by decide⟩) (okn rfl)))),
  s_aln C0 (d_X11_number_9) hgz (s_callV C0 hE (c_X11_blanks l) wg1367 wg1364 wg1366 ws84 wg12 ⟨by decide, by decide⟩ (by decide +kernel) (c0 := 11) rfl ⟨by decide, by decide⟩ ⟨by decide, by decide⟩ (d_X11_number_10) (fun x hx => (hno x hx).elim) ⟨by decide, by decide⟩ ⟨by decide, by decide⟩ (s_aln C0 (d_X11_number_13) hgz (s_gi C0 (j := 4) (c0 := 11) rfl gX11 (by decide) rfl (by decide) wg1205 (d_X11_number_14) hgz (s_isn C0 (d_X11_number_17) hgz (s_ic C0 (d_X11_number_18) hgz (s_is C0 (d_X11_number_19) hgz (s_aln C0 (d_X11_number_21) hgz (s_aln C0 (d_X11_number_22) hgz (s_gi C0 (j := 4) (c0 := 11) rfl gX11 (by decide) rfl (by decide) wg1205 (d_X11_number_23) hgz (s_callV C0 hE (c_X11_byteAt l) wg1371 wg1368 wg1370 ws85 wg12 ⟨by decide, by decide⟩ (by decide +kernel) (c0 := 11) rfl ⟨by decide, by decide⟩ ⟨by decide, by decide⟩ (d_X11_number_26) (fun x hx => (hno x hx).elim) ⟨by decide, by decide⟩ ⟨by decide, by decide⟩ (s_callS C0 hE (c_X11_isDigit l) wg1413 wg1411 wg1412 wg12 ⟨by decide, by decide⟩ (by decide +kernel) ⟨by decide, by decide⟩ ⟨by decide, by decide⟩ (d_X11_number_29) (fun x hx => (hno x hx).elim) ⟨by decide, by decide⟩ ⟨by decide, by decide⟩ (s_zne C0 (d_X11_number_32) (by decide) hgz hgz (fun _ _ _ h => h) (s_aln C0 (d_X11_number_35) hgz (s_ic C0 (d_X11_number_36) hgz (s_aln C0 (d_X11_number_37) hgz (s_gi C0 (j := 4) (c0 := 11) rfl gX11 (by decide) rfl (by decide) wg1205 (d_X11_number_38) hgz (s_callV C0 hE (c_X11_wrong l) wg1398 wg1395 wg1397 ws90 wg12 ⟨by decide, by decide⟩ (by decide +kernel) (c0 := 11) rfl ⟨by decide, by decide⟩ ⟨by decide, by decide⟩ (d_X11_number_41) (fun x hx => (hno x hx).elim) ⟨by decide, by decide⟩ ⟨by decide, by decide⟩ (fun _ _ _ h => h)))) (okn rfl)))))))))) (okn rfl)))))),
  s_aln C0 (d_X11_number_44) hgz (s_aln C0 (d_X11_number_45) hgz (s_gi C0 (j := 4) (c0 := 11) rfl gX11 (by decide) rfl (by decide) wg1205 (d_X11_number_46) hgz (s_callV C0 hE (c_X11_byteAt l) wg1371 wg1368 wg1370 ws85 wg12 ⟨by decide, by decide⟩ (by decide +kernel) (c0 := 11) rfl ⟨by decide, by decide⟩ ⟨by decide, by decide⟩ (d_X11_number_49) (fun x hx => (hno x hx).elim) ⟨by decide, by decide⟩ ⟨by decide, by decide⟩ (s_callS C0 hE (c_X11_isDigit l) wg1413 wg1411 wg1412 wg12 ⟨by decide, by decide⟩ (by decide +kernel) ⟨by decide, by decide⟩ ⟨by decide, by decide⟩ (d_X11_number_52) (fun x hx => (hno x hx).elim) ⟨by decide, by decide⟩ ⟨by decide, by decide⟩ (s_zeq C0 (d_X11_number_55) (by decide) hgz hgz (fun _ _ _ h => h) (s_bi C0 (d_X11_number_58) hgz (s_il C0 (d_X11_number_60) hgz (s_mul C0 (d_X11_number_62) hgz (s_aln C0 (d_X11_number_63) hgz (s_aln C0 (d_X11_number_64) hgz (s_gi C0 (j := 4) (c0 := 11) rfl gX11 (by decide) rfl (by decide) wg1205 (d_X11_number_65) hgz (s_callV C0 hE (c_X11_byteAt l) wg1371 wg1368 wg1370 ws85 wg12 ⟨by decide, by decide⟩ (by decide +kernel) (c0 := 11) rfl ⟨by decide, by decide⟩ ⟨by decide, by decide⟩ (d_X11_number_68) (fun x hx => (hno x hx).elim) ⟨by decide, by decide⟩ ⟨by decide, by decide⟩ (s_add C0 (d_X11_number_71) hgz (s_bi C0 (d_X11_number_72) hgz (s_sub C0 (d_X11_number_74) hgz (s_is C0 (d_X11_number_75) hgz (s_il C0 (d_X11_number_77) hgz (s_ldc C0 (n := 100000) wg1414 (d_X11_number_79) hgz (s_cle C0 (d_X11_number_81) (by decide) hgz hgz (fun _ _ _ h => h) (s_ldc C0 (n := 100000) wg1414 (d_X11_number_84) hgz (s_goto C0 (tgt := 91) (d_X11_number_86) (by decide) hgz (fun _ _ _ h => h)) (okn rfl))) (okn rfl))))) (okn rfl) rfl)))))))) (okn rfl) rfl)))))),
  s_il C0 (d_X11_number_89) hgz (fun _ _ _ h => h),
  s_is C0 (d_X11_number_91) hgz (s_aln C0 (d_X11_number_93) hgz (s_dup C0 (d_X11_number_94) hgz (s_gi C0 (j := 4) (c0 := 11) rfl gX11 (by decide) rfl (by decide) wg1205 (d_X11_number_95) hgz (s_ic C0 (d_X11_number_98) hgz (s_add C0 (d_X11_number_99) hgz (s_pi C0 (j := 4) (c0 := 11) rfl gX11 tyX11_ok nmX11 (by decide) rfl (by decide) rfl rfl wg1205 (d_X11_number_100) hgz (s_goto C0 (tgt := 44) (d_X11_number_103) (by decide) hgz (fun _ _ _ h => h)))) (okn rfl))))),
  s_il C0 (d_X11_number_106) hgz (s_iln C0 (d_X11_number_108) hgz (s_iln C0 (d_X11_number_109) hgz (s_callS C0 hE (c_X11_in l) wg1355 wg1353 wg1354 wg12 ⟨by decide, by decide⟩ (by decide +kernel) ⟨by decide, by decide⟩ ⟨by decide, by decide⟩ (d_X11_number_110) (fun x hx => (hno x hx).elim) ⟨by decide, by decide⟩ ⟨by decide, by decide⟩ (s_zne C0 (d_X11_number_113) (by decide) hgz hgz (fun _ _ _ h => h) (s_aln C0 (d_X11_number_116) hgz (s_ic C0 (d_X11_number_117) hgz (s_iln C0 (d_X11_number_118) hgz (s_callV C0 hE (c_X11_wrong l) wg1398 wg1395 wg1397 ws90 wg12 ⟨by decide, by decide⟩ (by decide +kernel) (c0 := 11) rfl ⟨by decide, by decide⟩ ⟨by decide, by decide⟩ (d_X11_number_119) (fun x hx => (hno x hx).elim) ⟨by decide, by decide⟩ ⟨by decide, by decide⟩ (fun _ _ _ h => h))) (okn rfl))))))),
  s_aln C0 (d_X11_number_122) hgz (s_gi C0 (j := 5) (c0 := 11) rfl gX11 (by decide) rfl (by decide) wg1206 (d_X11_number_123) hgz (s_zne C0 (d_X11_number_126) (by decide) hgz hgz (fun _ _ _ h => h) (s_il C0 (d_X11_number_129) hgz (s_goto C0 (tgt := 135) (d_X11_number_131) (by decide) hgz (fun _ _ _ h => h))))),
  s_ic C0 (d_X11_number_134) hgz (fun _ _ _ h => h) (okn rfl),
  s_ri C0 hr (d_X11_number_135) ⟨by decide, by decide⟩⟩
theorem c_X11_number (l : Launch) : Ctr l yX11_number cX11_number 5 (some .int) 12 241 0 (fun sx => (nf G_X11_number)) := ctr_of (by decide) gz gz ⟨rfl, rfl⟩ (fun p e s m args below meth c D ca ad sx sy A Q as M C0 hE hr hno hF => P_X11_number (L_X11_number C0 hE hr hno) hF)
theorem wg1410 : Cond.code ⟨"WeighedHallModel", "number", "(II)I"⟩ prog_13_method_10_code 5 (Option.some .int) ∈ GT := gt_mem 1530 (by decide +kernel) rfl
theorem wg1407 : Cond.methodLink "WeighedHallModel" 177 ⟨"WeighedHallModel", "number", "(II)I"⟩ ∈ GT := gt_mem 1527 (by decide +kernel) rfl
theorem wg1409 : Cond.instanceMethod ⟨"WeighedHallModel", "number", "(II)I"⟩ ∈ GT := gt_mem 1529 (by decide +kernel) rfl
theorem ws93 : Cond.selects "WeighedHallModel" ⟨"WeighedHallModel", "number", "(II)I"⟩ ⟨"WeighedHallModel", "number", "(II)I"⟩ ∈ GT := gt_mem 93 (by decide +kernel) rfl
theorem d_X11_readsMotion_0 : decode cX11_readsMotion 0 = .ok (.iconst 1, 1) := by decide +kernel
theorem d_X11_readsMotion_1 : decode cX11_readsMotion 1 = .ok (.aload_n 0, 1) := by decide +kernel
theorem d_X11_readsMotion_2 : decode cX11_readsMotion 2 = .ok (.getfield 20, 3) := by decide +kernel
theorem d_X11_readsMotion_5 : decode cX11_readsMotion 5 = .ok (.iconst 0, 1) := by decide +kernel
theorem d_X11_readsMotion_6 : decode cX11_readsMotion 6 = .ok (.iaload, 1) := by decide +kernel
theorem d_X11_readsMotion_7 : decode cX11_readsMotion 7 = .ok (.ishl, 1) := by decide +kernel
theorem d_X11_readsMotion_8 : decode cX11_readsMotion 8 = .ok (.iconst 1, 1) := by decide +kernel
theorem d_X11_readsMotion_9 : decode cX11_readsMotion 9 = .ok (.isub, 1) := by decide +kernel
theorem d_X11_readsMotion_10 : decode cX11_readsMotion 10 = .ok (.istore_n 2, 1) := by decide +kernel
theorem d_X11_readsMotion_11 : decode cX11_readsMotion 11 = .ok (.aload_n 1, 1) := by decide +kernel
theorem d_X11_readsMotion_12 : decode cX11_readsMotion 12 = .ok (.iconst 0, 1) := by decide +kernel
theorem d_X11_readsMotion_13 : decode cX11_readsMotion 13 = .ok (.aload_n 0, 1) := by decide +kernel
theorem d_X11_readsMotion_14 : decode cX11_readsMotion 14 = .ok (.iconst 0, 1) := by decide +kernel
theorem d_X11_readsMotion_15 : decode cX11_readsMotion 15 = .ok (.bipush 119, 2) := by decide +kernel
theorem d_X11_readsMotion_17 : decode cX11_readsMotion 17 = .ok (.invokevirtual 177, 3) := by decide +kernel
theorem d_X11_readsMotion_20 : decode cX11_readsMotion 20 = .ok (.iastore, 1) := by decide +kernel
theorem d_X11_readsMotion_21 : decode cX11_readsMotion 21 = .ok (.aload_n 1, 1) := by decide +kernel
theorem d_X11_readsMotion_22 : decode cX11_readsMotion 22 = .ok (.iconst 1, 1) := by decide +kernel
theorem d_X11_readsMotion_23 : decode cX11_readsMotion 23 = .ok (.aload_n 0, 1) := by decide +kernel
theorem d_X11_readsMotion_24 : decode cX11_readsMotion 24 = .ok (.iconst 0, 1) := by decide +kernel
theorem d_X11_readsMotion_25 : decode cX11_readsMotion 25 = .ok (.iload_n 2, 1) := by decide +kernel
theorem d_X11_readsMotion_26 : decode cX11_readsMotion 26 = .ok (.invokevirtual 177, 3) := by decide +kernel
theorem d_X11_readsMotion_29 : decode cX11_readsMotion 29 = .ok (.iastore, 1) := by decide +kernel
theorem d_X11_readsMotion_30 : decode cX11_readsMotion 30 = .ok (.aload_n 0, 1) := by decide +kernel
theorem d_X11_readsMotion_31 : decode cX11_readsMotion 31 = .ok (.invokevirtual 128, 3) := by decide +kernel
theorem d_X11_readsMotion_34 : decode cX11_readsMotion 34 = .ok (.aload_n 0, 1) := by decide +kernel
theorem d_X11_readsMotion_35 : decode cX11_readsMotion 35 = .ok (.getfield 115, 3) := by decide +kernel
theorem d_X11_readsMotion_38 : decode cX11_readsMotion 38 = .ok (.istore_n 3, 1) := by decide +kernel
theorem d_X11_readsMotion_39 : decode cX11_readsMotion 39 = .ok (.aload_n 1, 1) := by decide +kernel
theorem d_X11_readsMotion_40 : decode cX11_readsMotion 40 = .ok (.iconst 2, 1) := by decide +kernel
theorem d_X11_readsMotion_41 : decode cX11_readsMotion 41 = .ok (.aload_n 0, 1) := by decide +kernel
theorem d_X11_readsMotion_42 : decode cX11_readsMotion 42 = .ok (.iconst 0, 1) := by decide +kernel
theorem d_X11_readsMotion_43 : decode cX11_readsMotion 43 = .ok (.iload_n 2, 1) := by decide +kernel
theorem d_X11_readsMotion_44 : decode cX11_readsMotion 44 = .ok (.invokevirtual 177, 3) := by decide +kernel
theorem d_X11_readsMotion_47 : decode cX11_readsMotion 47 = .ok (.iastore, 1) := by decide +kernel
theorem d_X11_readsMotion_48 : decode cX11_readsMotion 48 = .ok (.aload_n 1, 1) := by decide +kernel
theorem d_X11_readsMotion_49 : decode cX11_readsMotion 49 = .ok (.iconst 1, 1) := by decide +kernel
theorem d_X11_readsMotion_50 : decode cX11_readsMotion 50 = .ok (.iaload, 1) := by decide +kernel
theorem d_X11_readsMotion_51 : decode cX11_readsMotion 51 = .ok (.aload_n 1, 1) := by decide +kernel
theorem d_X11_readsMotion_52 : decode cX11_readsMotion 52 = .ok (.iconst 2, 1) := by decide +kernel
theorem d_X11_readsMotion_53 : decode cX11_readsMotion 53 = .ok (.iaload, 1) := by decide +kernel
theorem d_X11_readsMotion_54 : decode cX11_readsMotion 54 = .ok (.iand, 1) := by decide +kernel
theorem d_X11_readsMotion_55 : decode cX11_readsMotion 55 = .ok (.ifCond .eq 9, 3) := by decide +kernel
theorem d_X11_readsMotion_58 : decode cX11_readsMotion 58 = .ok (.aload_n 0, 1) := by decide +kernel
theorem d_X11_readsMotion_59 : decode cX11_readsMotion 59 = .ok (.iconst 2, 1) := by decide +kernel
theorem d_X11_readsMotion_60 : decode cX11_readsMotion 60 = .ok (.iload_n 3, 1) := by decide +kernel
theorem d_X11_readsMotion_61 : decode cX11_readsMotion 61 = .ok (.invokevirtual 135, 3) := by decide +kernel
theorem d_X11_readsMotion_64 : decode cX11_readsMotion 64 = .ok (.aload_n 0, 1) := by decide +kernel
theorem d_X11_readsMotion_65 : decode cX11_readsMotion 65 = .ok (.getfield 20, 3) := by decide +kernel
theorem d_X11_readsMotion_68 : decode cX11_readsMotion 68 = .ok (.iconst 3, 1) := by decide +kernel
theorem d_X11_readsMotion_69 : decode cX11_readsMotion 69 = .ok (.dup2, 1) := by decide +kernel
theorem d_X11_readsMotion_70 : decode cX11_readsMotion 70 = .ok (.iaload, 1) := by decide +kernel
theorem d_X11_readsMotion_71 : decode cX11_readsMotion 71 = .ok (.iconst 1, 1) := by decide +kernel
theorem d_X11_readsMotion_72 : decode cX11_readsMotion 72 = .ok (.iadd, 1) := by decide +kernel
theorem d_X11_readsMotion_73 : decode cX11_readsMotion 73 = .ok (.iastore, 1) := by decide +kernel
theorem d_X11_readsMotion_74 : decode cX11_readsMotion 74 = .ok (.return_, 1) := by decide +kernel
set_option maxRecDepth 100000 in
theorem L_X11_readsMotion {p : Program} {l : Launch} {e : Env} {s : State} {m : MethodId} {args : Array Value} {below : List Frame} {meth : Method} {c : Code} {D : va_G} {ca : Nat → ClassId} {ad sx sy : Nat → Nat} {A : Nat → Prop} {Q : QT} (C0 : CX p s m args meth c cX11_readsMotion 4 yX11_readsMotion.cls D ca ad A) (hE : EX sx sy A s s.heap) (hr : meth.sig.returnType = none) (hno : ∀ x ∈ c.exceptionTable.toList, False) : R_X11_readsMotion (JW p l e { frames := 13, cells := 0, slots := 6 * 0, locals := 265 } s m args below meth c 4 D ca ad A (vx_MQ below (Qn D ca ad A Q) (Qx D ca ad A Q) args s 0 (6 * 0) A) gz gz true) Q := ⟨s_ic C0 (d_X11_readsMotion_0) hgz (s_aln C0 (d_X11_readsMotion_1) hgz (s_gr C0 (j := 10) (c0 := 11) rfl gX11 (by decide) rfl rfl wg1211 (d_X11_readsMotion_2) hgz (s_ic C0 (d_X11_readsMotion_5) hgz (s_ia C0 (d_X11_readsMotion_6) hgz (s_shl C0 (d_X11_readsMotion_7) hgz (s_ic C0 (d_X11_readsMotion_8) hgz (s_sub C0 (d_X11_readsMotion_9) hgz (s_isn C0 (d_X11_readsMotion_10) hgz (s_aln C0 (d_X11_readsMotion_11) hgz (s_ic C0 (d_X11_readsMotion_12) hgz (s_aln C0 (d_X11_readsMotion_13) hgz (s_ic C0 (d_X11_readsMotion_14) hgz (s_bi C0 (d_X11_readsMotion_15) hgz (s_callV C0 hE (c_X11_number l) wg1410 wg1407 wg1409 ws93 wg12 ⟨by decide, by decide⟩ (by decide +kernel) (c0 := 11) rfl ⟨by decide, by decide⟩ ⟨by decide, by decide⟩ (d_X11_readsMotion_17) (fun x hx => (hno x hx).elim) ⟨by decide, by decide⟩ ⟨by decide, by decide⟩ (s_iax C0 (d_X11_readsMotion_20) hgz (s_aln C0 (d_X11_readsMotion_21) hgz (s_ic C0 (d_X11_readsMotion_22) hgz (s_aln C0 (d_X11_readsMotion_23) hgz (s_ic C0 (d_X11_readsMotion_24) hgz (s_iln C0 (d_X11_readsMotion_25) hgz (s_callV C0 hE (c_X11_number l) wg1410 wg1407 wg1409 ws93 wg12 ⟨by decide, by decide⟩ (by decide +kernel) (c0 := 11) rfl ⟨by decide, by decide⟩ ⟨by decide, by decide⟩ (d_X11_readsMotion_26) (fun x hx => (hno x hx).elim) ⟨by decide, by decide⟩ ⟨by decide, by decide⟩ (s_iax C0 (d_X11_readsMotion_29) hgz (s_aln C0 (d_X11_readsMotion_30) hgz (s_callV C0 hE (c_X11_blanks l) wg1367 wg1364 wg1366 ws84 wg12 ⟨by decide, by decide⟩ (by decide +kernel) (c0 := 11) rfl ⟨by decide, by decide⟩ ⟨by decide, by decide⟩ (d_X11_readsMotion_31) (fun x hx => (hno x hx).elim) ⟨by decide, by decide⟩ ⟨by decide, by decide⟩ (s_aln C0 (d_X11_readsMotion_34) hgz (s_gi C0 (j := 4) (c0 := 11) rfl gX11 (by decide) rfl (by decide) wg1205 (d_X11_readsMotion_35) hgz (s_isn C0 (d_X11_readsMotion_38) hgz (s_aln C0 (d_X11_readsMotion_39) hgz (s_ic C0 (d_X11_readsMotion_40) hgz (s_aln C0 (d_X11_readsMotion_41) hgz (s_ic C0 (d_X11_readsMotion_42) hgz (s_iln C0 (d_X11_readsMotion_43) hgz (s_callV C0 hE (c_X11_number l) wg1410 wg1407 wg1409 ws93 wg12 ⟨by decide, by decide⟩ (by decide +kernel) (c0 := 11) rfl ⟨by decide, by decide⟩ ⟨by decide, by decide⟩ (d_X11_readsMotion_44) (fun x hx => (hno x hx).elim) ⟨by decide, by decide⟩ ⟨by decide, by decide⟩ (s_iax C0 (d_X11_readsMotion_47) hgz (s_aln C0 (d_X11_readsMotion_48) hgz (s_ic C0 (d_X11_readsMotion_49) hgz (s_ia C0 (d_X11_readsMotion_50) hgz (s_aln C0 (d_X11_readsMotion_51) hgz (s_ic C0 (d_X11_readsMotion_52) hgz (s_ia C0 (d_X11_readsMotion_53) hgz (s_and C0 (d_X11_readsMotion_54) hgz (s_zeq C0 (d_X11_readsMotion_55) (by decide) hgz hgz (fun _ _ _ h => h) (s_aln C0 (d_X11_readsMotion_58) hgz (s_ic C0 (d_X11_readsMotion_59) hgz (s_iln C0 (d_X11_readsMotion_60) hgz (s_callV C0 hE (c_X11_wrong l) wg1398 wg1395 wg1397 ws90 wg12 ⟨by decide, by decide⟩ (by decide +kernel) (c0 := 11) rfl ⟨by decide, by decide⟩ ⟨by decide, by decide⟩ (d_X11_readsMotion_61) (fun x hx => (hno x hx).elim) ⟨by decide, by decide⟩ ⟨by decide, by decide⟩ (fun _ _ _ h => h))) (okn rfl)))))) (okn rfl)))) (okn rfl)))))) (okn rfl))) (okn rfl))))))))))) (okn rfl))) (okn rfl))))) (okn rfl) rfl) (okn rfl))) (okn rfl))))) (okn rfl)))) (okn rfl)))) (okn rfl),
  s_aln C0 (d_X11_readsMotion_64) hgz (s_gr C0 (j := 10) (c0 := 11) rfl gX11 (by decide) rfl rfl wg1211 (d_X11_readsMotion_65) hgz (s_ic C0 (d_X11_readsMotion_68) hgz (s_dup2 C0 (d_X11_readsMotion_69) hgz (s_ia C0 (d_X11_readsMotion_70) hgz (s_ic C0 (d_X11_readsMotion_71) hgz (s_add C0 (d_X11_readsMotion_72) hgz (s_iax C0 (d_X11_readsMotion_73) hgz (s_rv C0 hr (d_X11_readsMotion_74) ⟨by decide, by decide⟩))) (okn rfl)))) (okn rfl)))⟩
theorem c_X11_readsMotion (l : Launch) : Ctr l yX11_readsMotion cX11_readsMotion 4 none 13 265 0 (fun sx => (nf G_X11_readsMotion)) := ctr_of (by decide) gz gz ⟨rfl, rfl⟩ (fun p e s m args below meth c D ca ad sx sy A Q as M C0 hE hr hno hF => P_X11_readsMotion (L_X11_readsMotion C0 hE hr hno) hF)
theorem wg1379 : Cond.code ⟨"WeighedHallModel", "kindHere", "()I"⟩ prog_13_method_17_code 1 (Option.some .int) ∈ GT := gt_mem 1499 (by decide +kernel) rfl
theorem wg1376 : Cond.methodLink "WeighedHallModel" 167 ⟨"WeighedHallModel", "kindHere", "()I"⟩ ∈ GT := gt_mem 1496 (by decide +kernel) rfl
theorem wg1378 : Cond.instanceMethod ⟨"WeighedHallModel", "kindHere", "()I"⟩ ∈ GT := gt_mem 1498 (by decide +kernel) rfl
theorem ws87 : Cond.selects "WeighedHallModel" ⟨"WeighedHallModel", "kindHere", "()I"⟩ ⟨"WeighedHallModel", "kindHere", "()I"⟩ ∈ GT := gt_mem 87 (by decide +kernel) rfl
theorem wg1402 : Cond.code ⟨"WeighedHallModel", "isFull", "(I)Z"⟩ prog_13_method_18_code 2 (Option.some .boolean) ∈ GT := gt_mem 1522 (by decide +kernel) rfl
theorem wg1399 : Cond.methodLink "WeighedHallModel" 171 ⟨"WeighedHallModel", "isFull", "(I)Z"⟩ ∈ GT := gt_mem 1519 (by decide +kernel) rfl
theorem wg1401 : Cond.instanceMethod ⟨"WeighedHallModel", "isFull", "(I)Z"⟩ ∈ GT := gt_mem 1521 (by decide +kernel) rfl
theorem ws91 : Cond.selects "WeighedHallModel" ⟨"WeighedHallModel", "isFull", "(I)Z"⟩ ⟨"WeighedHallModel", "isFull", "(I)Z"⟩ ∈ GT := gt_mem 91 (by decide +kernel) rfl
theorem wg1208 : Cond.fieldLink "WeighedHallModel" 154 "WeighedHallModel" "clauses" "I" ∈ GT := gt_mem 1328 (by decide +kernel) rfl
theorem wg1406 : Cond.code ⟨"WeighedHallModel", "skipWord", "()V"⟩ prog_13_method_14_code 1 (Option.none : Option FieldType) ∈ GT := gt_mem 1526 (by decide +kernel) rfl
theorem wg1403 : Cond.methodLink "WeighedHallModel" 174 ⟨"WeighedHallModel", "skipWord", "()V"⟩ ∈ GT := gt_mem 1523 (by decide +kernel) rfl
theorem wg1405 : Cond.instanceMethod ⟨"WeighedHallModel", "skipWord", "()V"⟩ ∈ GT := gt_mem 1525 (by decide +kernel) rfl
theorem ws92 : Cond.selects "WeighedHallModel" ⟨"WeighedHallModel", "skipWord", "()V"⟩ ⟨"WeighedHallModel", "skipWord", "()V"⟩ ∈ GT := gt_mem 92 (by decide +kernel) rfl
theorem wg1213 : Cond.fieldLink "WeighedHallModel" 28 "WeighedHallModel" "readPerson" "[[I" ∈ GT := gt_mem 1333 (by decide +kernel) rfl
theorem wg1221 : Cond.fieldLink "WeighedHallModel" 52 "WeighedHallModel" "readDoor" "[I" ∈ GT := gt_mem 1341 (by decide +kernel) rfl
theorem wg1418 : Cond.code ⟨"WeighedHallModel", "readsMotion", "([I)V"⟩ prog_13_method_20_code 4 (Option.none : Option FieldType) ∈ GT := gt_mem 1538 (by decide +kernel) rfl
theorem wg1415 : Cond.methodLink "WeighedHallModel" 181 ⟨"WeighedHallModel", "readsMotion", "([I)V"⟩ ∈ GT := gt_mem 1535 (by decide +kernel) rfl
theorem wg1417 : Cond.instanceMethod ⟨"WeighedHallModel", "readsMotion", "([I)V"⟩ ∈ GT := gt_mem 1537 (by decide +kernel) rfl
theorem ws94 : Cond.selects "WeighedHallModel" ⟨"WeighedHallModel", "readsMotion", "([I)V"⟩ ⟨"WeighedHallModel", "readsMotion", "([I)V"⟩ ∈ GT := gt_mem 94 (by decide +kernel) rfl
theorem wg1217 : Cond.fieldLink "WeighedHallModel" 40 "WeighedHallModel" "readMotion" "[[I" ∈ GT := gt_mem 1337 (by decide +kernel) rfl
theorem wg1215 : Cond.fieldLink "WeighedHallModel" 34 "WeighedHallModel" "readThing" "[[I" ∈ GT := gt_mem 1335 (by decide +kernel) rfl
theorem wg1422 : Cond.code ⟨"WeighedHallModel", "closes", "()V"⟩ prog_13_method_15_code 1 (Option.none : Option FieldType) ∈ GT := gt_mem 1542 (by decide +kernel) rfl
theorem wg1419 : Cond.methodLink "WeighedHallModel" 185 ⟨"WeighedHallModel", "closes", "()V"⟩ ∈ GT := gt_mem 1539 (by decide +kernel) rfl
theorem wg1421 : Cond.instanceMethod ⟨"WeighedHallModel", "closes", "()V"⟩ ∈ GT := gt_mem 1541 (by decide +kernel) rfl
theorem ws95 : Cond.selects "WeighedHallModel" ⟨"WeighedHallModel", "closes", "()V"⟩ ⟨"WeighedHallModel", "closes", "()V"⟩ ∈ GT := gt_mem 95 (by decide +kernel) rfl
theorem d_X11_clause_0 : decode cX11_clause 0 = .ok (.aload_n 0, 1) := by decide +kernel
theorem d_X11_clause_1 : decode cX11_clause 1 = .ok (.invokevirtual 167, 3) := by decide +kernel
theorem d_X11_clause_4 : decode cX11_clause 4 = .ok (.istore_n 1, 1) := by decide +kernel
theorem d_X11_clause_5 : decode cX11_clause 5 = .ok (.iload_n 1, 1) := by decide +kernel
theorem d_X11_clause_6 : decode cX11_clause 6 = .ok (.iconst (-1), 1) := by decide +kernel
theorem d_X11_clause_7 : decode cX11_clause 7 = .ok (.if_icmp .ne 15, 3) := by decide +kernel
theorem d_X11_clause_10 : decode cX11_clause 10 = .ok (.aload_n 0, 1) := by decide +kernel
theorem d_X11_clause_11 : decode cX11_clause 11 = .ok (.iconst 1, 1) := by decide +kernel
theorem d_X11_clause_12 : decode cX11_clause 12 = .ok (.aload_n 0, 1) := by decide +kernel
theorem d_X11_clause_13 : decode cX11_clause 13 = .ok (.getfield 115, 3) := by decide +kernel
theorem d_X11_clause_16 : decode cX11_clause 16 = .ok (.invokevirtual 135, 3) := by decide +kernel
theorem d_X11_clause_19 : decode cX11_clause 19 = .ok (.goto 29, 3) := by decide +kernel
theorem d_X11_clause_22 : decode cX11_clause 22 = .ok (.aload_n 0, 1) := by decide +kernel
theorem d_X11_clause_23 : decode cX11_clause 23 = .ok (.getfield 154, 3) := by decide +kernel
theorem d_X11_clause_26 : decode cX11_clause 26 = .ok (.bipush 60, 2) := by decide +kernel
theorem d_X11_clause_28 : decode cX11_clause 28 = .ok (.if_icmp .eq 11, 3) := by decide +kernel
theorem d_X11_clause_31 : decode cX11_clause 31 = .ok (.aload_n 0, 1) := by decide +kernel
theorem d_X11_clause_32 : decode cX11_clause 32 = .ok (.iload_n 1, 1) := by decide +kernel
theorem d_X11_clause_33 : decode cX11_clause 33 = .ok (.invokevirtual 171, 3) := by decide +kernel
theorem d_X11_clause_36 : decode cX11_clause 36 = .ok (.ifCond .eq 12, 3) := by decide +kernel
theorem d_X11_clause_39 : decode cX11_clause 39 = .ok (.aload_n 0, 1) := by decide +kernel
theorem d_X11_clause_40 : decode cX11_clause 40 = .ok (.iconst 3, 1) := by decide +kernel
theorem d_X11_clause_41 : decode cX11_clause 41 = .ok (.aload_n 0, 1) := by decide +kernel
theorem d_X11_clause_42 : decode cX11_clause 42 = .ok (.getfield 115, 3) := by decide +kernel
theorem d_X11_clause_45 : decode cX11_clause 45 = .ok (.invokevirtual 135, 3) := by decide +kernel
theorem d_X11_clause_48 : decode cX11_clause 48 = .ok (.aload_n 0, 1) := by decide +kernel
theorem d_X11_clause_49 : decode cX11_clause 49 = .ok (.getfield 122, 3) := by decide +kernel
theorem d_X11_clause_52 : decode cX11_clause 52 = .ok (.ifCond .eq 4, 3) := by decide +kernel
theorem d_X11_clause_55 : decode cX11_clause 55 = .ok (.return_, 1) := by decide +kernel
theorem d_X11_clause_56 : decode cX11_clause 56 = .ok (.aload_n 0, 1) := by decide +kernel
theorem d_X11_clause_57 : decode cX11_clause 57 = .ok (.invokevirtual 174, 3) := by decide +kernel
theorem d_X11_clause_60 : decode cX11_clause 60 = .ok (.aload_n 0, 1) := by decide +kernel
theorem d_X11_clause_61 : decode cX11_clause 61 = .ok (.dup, 1) := by decide +kernel
theorem d_X11_clause_62 : decode cX11_clause 62 = .ok (.getfield 154, 3) := by decide +kernel
theorem d_X11_clause_65 : decode cX11_clause 65 = .ok (.iconst 1, 1) := by decide +kernel
theorem d_X11_clause_66 : decode cX11_clause 66 = .ok (.iadd, 1) := by decide +kernel
theorem d_X11_clause_67 : decode cX11_clause 67 = .ok (.putfield 154, 3) := by decide +kernel
theorem d_X11_clause_70 : decode cX11_clause 70 = .ok (.iload_n 1, 1) := by decide +kernel
theorem d_X11_clause_71 : decode cX11_clause 71 = .ok (.tableswitch 141 0 4 #[33, 141, 77, 108, 126], 33) := by decide +kernel
theorem d_X11_clause_104 : decode cX11_clause 104 = .ok (.aload_n 0, 1) := by decide +kernel
theorem d_X11_clause_105 : decode cX11_clause 105 = .ok (.getfield 28, 3) := by decide +kernel
theorem d_X11_clause_108 : decode cX11_clause 108 = .ok (.aload_n 0, 1) := by decide +kernel
theorem d_X11_clause_109 : decode cX11_clause 109 = .ok (.getfield 20, 3) := by decide +kernel
theorem d_X11_clause_112 : decode cX11_clause 112 = .ok (.iconst 0, 1) := by decide +kernel
theorem d_X11_clause_113 : decode cX11_clause 113 = .ok (.iaload, 1) := by decide +kernel
theorem d_X11_clause_114 : decode cX11_clause 114 = .ok (.aaload, 1) := by decide +kernel
theorem d_X11_clause_115 : decode cX11_clause 115 = .ok (.astore_n 2, 1) := by decide +kernel
theorem d_X11_clause_116 : decode cX11_clause 116 = .ok (.aload_n 2, 1) := by decide +kernel
theorem d_X11_clause_117 : decode cX11_clause 117 = .ok (.iconst 0, 1) := by decide +kernel
theorem d_X11_clause_118 : decode cX11_clause 118 = .ok (.aload_n 0, 1) := by decide +kernel
theorem d_X11_clause_119 : decode cX11_clause 119 = .ok (.iconst 0, 1) := by decide +kernel
theorem d_X11_clause_120 : decode cX11_clause 120 = .ok (.iconst 3, 1) := by decide +kernel
theorem d_X11_clause_121 : decode cX11_clause 121 = .ok (.invokevirtual 177, 3) := by decide +kernel
theorem d_X11_clause_124 : decode cX11_clause 124 = .ok (.iastore, 1) := by decide +kernel
theorem d_X11_clause_125 : decode cX11_clause 125 = .ok (.aload_n 2, 1) := by decide +kernel
theorem d_X11_clause_126 : decode cX11_clause 126 = .ok (.iconst 1, 1) := by decide +kernel
theorem d_X11_clause_127 : decode cX11_clause 127 = .ok (.aload_n 0, 1) := by decide +kernel
theorem d_X11_clause_128 : decode cX11_clause 128 = .ok (.iconst 1, 1) := by decide +kernel
theorem d_X11_clause_129 : decode cX11_clause 129 = .ok (.bipush 99, 2) := by decide +kernel
theorem d_X11_clause_131 : decode cX11_clause 131 = .ok (.invokevirtual 177, 3) := by decide +kernel
theorem d_X11_clause_134 : decode cX11_clause 134 = .ok (.iastore, 1) := by decide +kernel
theorem d_X11_clause_135 : decode cX11_clause 135 = .ok (.aload_n 0, 1) := by decide +kernel
theorem d_X11_clause_136 : decode cX11_clause 136 = .ok (.getfield 20, 3) := by decide +kernel
theorem d_X11_clause_139 : decode cX11_clause 139 = .ok (.iconst 0, 1) := by decide +kernel
theorem d_X11_clause_140 : decode cX11_clause 140 = .ok (.dup2, 1) := by decide +kernel
theorem d_X11_clause_141 : decode cX11_clause 141 = .ok (.iaload, 1) := by decide +kernel
theorem d_X11_clause_142 : decode cX11_clause 142 = .ok (.iconst 1, 1) := by decide +kernel
theorem d_X11_clause_143 : decode cX11_clause 143 = .ok (.iadd, 1) := by decide +kernel
theorem d_X11_clause_144 : decode cX11_clause 144 = .ok (.iastore, 1) := by decide +kernel
theorem d_X11_clause_145 : decode cX11_clause 145 = .ok (.goto 162, 3) := by decide +kernel
theorem d_X11_clause_148 : decode cX11_clause 148 = .ok (.aload_n 0, 1) := by decide +kernel
theorem d_X11_clause_149 : decode cX11_clause 149 = .ok (.getfield 52, 3) := by decide +kernel
theorem d_X11_clause_152 : decode cX11_clause 152 = .ok (.aload_n 0, 1) := by decide +kernel
theorem d_X11_clause_153 : decode cX11_clause 153 = .ok (.getfield 20, 3) := by decide +kernel
theorem d_X11_clause_156 : decode cX11_clause 156 = .ok (.iconst 2, 1) := by decide +kernel
theorem d_X11_clause_157 : decode cX11_clause 157 = .ok (.iaload, 1) := by decide +kernel
theorem d_X11_clause_158 : decode cX11_clause 158 = .ok (.aload_n 0, 1) := by decide +kernel
theorem d_X11_clause_159 : decode cX11_clause 159 = .ok (.iconst 1, 1) := by decide +kernel
theorem d_X11_clause_160 : decode cX11_clause 160 = .ok (.bipush 99, 2) := by decide +kernel
theorem d_X11_clause_162 : decode cX11_clause 162 = .ok (.invokevirtual 177, 3) := by decide +kernel
theorem d_X11_clause_165 : decode cX11_clause 165 = .ok (.iastore, 1) := by decide +kernel
theorem d_X11_clause_166 : decode cX11_clause 166 = .ok (.aload_n 0, 1) := by decide +kernel
theorem d_X11_clause_167 : decode cX11_clause 167 = .ok (.getfield 20, 3) := by decide +kernel
theorem d_X11_clause_170 : decode cX11_clause 170 = .ok (.iconst 2, 1) := by decide +kernel
theorem d_X11_clause_171 : decode cX11_clause 171 = .ok (.dup2, 1) := by decide +kernel
theorem d_X11_clause_172 : decode cX11_clause 172 = .ok (.iaload, 1) := by decide +kernel
theorem d_X11_clause_173 : decode cX11_clause 173 = .ok (.iconst 1, 1) := by decide +kernel
theorem d_X11_clause_174 : decode cX11_clause 174 = .ok (.iadd, 1) := by decide +kernel
theorem d_X11_clause_175 : decode cX11_clause 175 = .ok (.iastore, 1) := by decide +kernel
theorem d_X11_clause_176 : decode cX11_clause 176 = .ok (.goto 131, 3) := by decide +kernel
theorem d_X11_clause_179 : decode cX11_clause 179 = .ok (.aload_n 0, 1) := by decide +kernel
theorem d_X11_clause_180 : decode cX11_clause 180 = .ok (.aload_n 0, 1) := by decide +kernel
theorem d_X11_clause_181 : decode cX11_clause 181 = .ok (.getfield 40, 3) := by decide +kernel
theorem d_X11_clause_184 : decode cX11_clause 184 = .ok (.aload_n 0, 1) := by decide +kernel
theorem d_X11_clause_185 : decode cX11_clause 185 = .ok (.getfield 20, 3) := by decide +kernel
theorem d_X11_clause_188 : decode cX11_clause 188 = .ok (.iconst 3, 1) := by decide +kernel
theorem d_X11_clause_189 : decode cX11_clause 189 = .ok (.iaload, 1) := by decide +kernel
theorem d_X11_clause_190 : decode cX11_clause 190 = .ok (.aaload, 1) := by decide +kernel
theorem d_X11_clause_191 : decode cX11_clause 191 = .ok (.invokevirtual 181, 3) := by decide +kernel
theorem d_X11_clause_194 : decode cX11_clause 194 = .ok (.goto 113, 3) := by decide +kernel
theorem d_X11_clause_197 : decode cX11_clause 197 = .ok (.aload_n 0, 1) := by decide +kernel
theorem d_X11_clause_198 : decode cX11_clause 198 = .ok (.getfield 20, 3) := by decide +kernel
theorem d_X11_clause_201 : decode cX11_clause 201 = .ok (.iconst 4, 1) := by decide +kernel
theorem d_X11_clause_202 : decode cX11_clause 202 = .ok (.aload_n 0, 1) := by decide +kernel
theorem d_X11_clause_203 : decode cX11_clause 203 = .ok (.iconst 0, 1) := by decide +kernel
theorem d_X11_clause_204 : decode cX11_clause 204 = .ok (.iconst 2, 1) := by decide +kernel
theorem d_X11_clause_205 : decode cX11_clause 205 = .ok (.invokevirtual 177, 3) := by decide +kernel
theorem d_X11_clause_208 : decode cX11_clause 208 = .ok (.iastore, 1) := by decide +kernel
theorem d_X11_clause_209 : decode cX11_clause 209 = .ok (.goto 98, 3) := by decide +kernel
theorem d_X11_clause_212 : decode cX11_clause 212 = .ok (.aload_n 0, 1) := by decide +kernel
theorem d_X11_clause_213 : decode cX11_clause 213 = .ok (.getfield 34, 3) := by decide +kernel
theorem d_X11_clause_216 : decode cX11_clause 216 = .ok (.aload_n 0, 1) := by decide +kernel
theorem d_X11_clause_217 : decode cX11_clause 217 = .ok (.getfield 20, 3) := by decide +kernel
theorem d_X11_clause_220 : decode cX11_clause 220 = .ok (.iconst 1, 1) := by decide +kernel
theorem d_X11_clause_221 : decode cX11_clause 221 = .ok (.iaload, 1) := by decide +kernel
theorem d_X11_clause_222 : decode cX11_clause 222 = .ok (.aaload, 1) := by decide +kernel
theorem d_X11_clause_223 : decode cX11_clause 223 = .ok (.astore_n 2, 1) := by decide +kernel
theorem d_X11_clause_224 : decode cX11_clause 224 = .ok (.aload_n 2, 1) := by decide +kernel
theorem d_X11_clause_225 : decode cX11_clause 225 = .ok (.iconst 0, 1) := by decide +kernel
theorem d_X11_clause_226 : decode cX11_clause 226 = .ok (.aload_n 0, 1) := by decide +kernel
theorem d_X11_clause_227 : decode cX11_clause 227 = .ok (.iconst 0, 1) := by decide +kernel
theorem d_X11_clause_228 : decode cX11_clause 228 = .ok (.aload_n 0, 1) := by decide +kernel
theorem d_X11_clause_229 : decode cX11_clause 229 = .ok (.getfield 20, 3) := by decide +kernel
theorem d_X11_clause_232 : decode cX11_clause 232 = .ok (.iconst 0, 1) := by decide +kernel
theorem d_X11_clause_233 : decode cX11_clause 233 = .ok (.iaload, 1) := by decide +kernel
theorem d_X11_clause_234 : decode cX11_clause 234 = .ok (.iconst 1, 1) := by decide +kernel
theorem d_X11_clause_235 : decode cX11_clause 235 = .ok (.isub, 1) := by decide +kernel
theorem d_X11_clause_236 : decode cX11_clause 236 = .ok (.invokevirtual 177, 3) := by decide +kernel
theorem d_X11_clause_239 : decode cX11_clause 239 = .ok (.iastore, 1) := by decide +kernel
theorem d_X11_clause_240 : decode cX11_clause 240 = .ok (.aload_n 2, 1) := by decide +kernel
theorem d_X11_clause_241 : decode cX11_clause 241 = .ok (.iconst 1, 1) := by decide +kernel
theorem d_X11_clause_242 : decode cX11_clause 242 = .ok (.aload_n 0, 1) := by decide +kernel
theorem d_X11_clause_243 : decode cX11_clause 243 = .ok (.iconst 1, 1) := by decide +kernel
theorem d_X11_clause_244 : decode cX11_clause 244 = .ok (.bipush 99, 2) := by decide +kernel
theorem d_X11_clause_246 : decode cX11_clause 246 = .ok (.invokevirtual 177, 3) := by decide +kernel
theorem d_X11_clause_249 : decode cX11_clause 249 = .ok (.iastore, 1) := by decide +kernel
theorem d_X11_clause_250 : decode cX11_clause 250 = .ok (.aload_n 2, 1) := by decide +kernel
theorem d_X11_clause_251 : decode cX11_clause 251 = .ok (.iconst 2, 1) := by decide +kernel
theorem d_X11_clause_252 : decode cX11_clause 252 = .ok (.iload_n 1, 1) := by decide +kernel
theorem d_X11_clause_253 : decode cX11_clause 253 = .ok (.iconst 1, 1) := by decide +kernel
theorem d_X11_clause_254 : decode cX11_clause 254 = .ok (.if_icmp .ne 7, 3) := by decide +kernel
theorem d_X11_clause_257 : decode cX11_clause 257 = .ok (.iconst (-1), 1) := by decide +kernel
theorem d_X11_clause_258 : decode cX11_clause 258 = .ok (.goto 16, 3) := by decide +kernel
theorem d_X11_clause_261 : decode cX11_clause 261 = .ok (.aload_n 0, 1) := by decide +kernel
theorem d_X11_clause_262 : decode cX11_clause 262 = .ok (.iconst 0, 1) := by decide +kernel
theorem d_X11_clause_263 : decode cX11_clause 263 = .ok (.aload_n 0, 1) := by decide +kernel
theorem d_X11_clause_264 : decode cX11_clause 264 = .ok (.getfield 20, 3) := by decide +kernel
theorem d_X11_clause_267 : decode cX11_clause 267 = .ok (.iconst 2, 1) := by decide +kernel
theorem d_X11_clause_268 : decode cX11_clause 268 = .ok (.iaload, 1) := by decide +kernel
theorem d_X11_clause_269 : decode cX11_clause 269 = .ok (.iconst 1, 1) := by decide +kernel
theorem d_X11_clause_270 : decode cX11_clause 270 = .ok (.isub, 1) := by decide +kernel
theorem d_X11_clause_271 : decode cX11_clause 271 = .ok (.invokevirtual 177, 3) := by decide +kernel
theorem d_X11_clause_274 : decode cX11_clause 274 = .ok (.iastore, 1) := by decide +kernel
theorem d_X11_clause_275 : decode cX11_clause 275 = .ok (.aload_n 2, 1) := by decide +kernel
theorem d_X11_clause_276 : decode cX11_clause 276 = .ok (.iconst 3, 1) := by decide +kernel
theorem d_X11_clause_277 : decode cX11_clause 277 = .ok (.iload_n 1, 1) := by decide +kernel
theorem d_X11_clause_278 : decode cX11_clause 278 = .ok (.iconst 1, 1) := by decide +kernel
theorem d_X11_clause_279 : decode cX11_clause 279 = .ok (.if_icmp .ne 7, 3) := by decide +kernel
theorem d_X11_clause_282 : decode cX11_clause 282 = .ok (.iconst 0, 1) := by decide +kernel
theorem d_X11_clause_283 : decode cX11_clause 283 = .ok (.goto 10, 3) := by decide +kernel
theorem d_X11_clause_286 : decode cX11_clause 286 = .ok (.aload_n 0, 1) := by decide +kernel
theorem d_X11_clause_287 : decode cX11_clause 287 = .ok (.iconst 0, 1) := by decide +kernel
theorem d_X11_clause_288 : decode cX11_clause 288 = .ok (.bipush 99, 2) := by decide +kernel
theorem d_X11_clause_290 : decode cX11_clause 290 = .ok (.invokevirtual 177, 3) := by decide +kernel
theorem d_X11_clause_293 : decode cX11_clause 293 = .ok (.iastore, 1) := by decide +kernel
theorem d_X11_clause_294 : decode cX11_clause 294 = .ok (.aload_n 0, 1) := by decide +kernel
theorem d_X11_clause_295 : decode cX11_clause 295 = .ok (.getfield 20, 3) := by decide +kernel
theorem d_X11_clause_298 : decode cX11_clause 298 = .ok (.iconst 1, 1) := by decide +kernel
theorem d_X11_clause_299 : decode cX11_clause 299 = .ok (.dup2, 1) := by decide +kernel
theorem d_X11_clause_300 : decode cX11_clause 300 = .ok (.iaload, 1) := by decide +kernel
theorem d_X11_clause_301 : decode cX11_clause 301 = .ok (.iconst 1, 1) := by decide +kernel
theorem d_X11_clause_302 : decode cX11_clause 302 = .ok (.iadd, 1) := by decide +kernel
theorem d_X11_clause_303 : decode cX11_clause 303 = .ok (.iastore, 1) := by decide +kernel
theorem d_X11_clause_304 : decode cX11_clause 304 = .ok (.goto 3, 3) := by decide +kernel
theorem d_X11_clause_307 : decode cX11_clause 307 = .ok (.aload_n 0, 1) := by decide +kernel
theorem d_X11_clause_308 : decode cX11_clause 308 = .ok (.invokevirtual 185, 3) := by decide +kernel
theorem d_X11_clause_311 : decode cX11_clause 311 = .ok (.return_, 1) := by decide +kernel
set_option maxRecDepth 100000 in
theorem L_X11_clause {p : Program} {l : Launch} {e : Env} {s : State} {m : MethodId} {args : Array Value} {below : List Frame} {meth : Method} {c : Code} {D : va_G} {ca : Nat → ClassId} {ad sx sy : Nat → Nat} {A : Nat → Prop} {Q : QT} (C0 : CX p s m args meth c cX11_clause 3 yX11_clause.cls D ca ad A) (hE : EX sx sy A s s.heap) (hr : meth.sig.returnType = none) (hno : ∀ x ∈ c.exceptionTable.toList, False) : R_X11_clause (JW p l e { frames := 15, cells := 0, slots := 6 * 0, locals := 306 } s m args below meth c 3 D ca ad A (vx_MQ below (Qn D ca ad A Q) (Qx D ca ad A Q) args s 0 (6 * 0) A) gz gz true) Q := ⟨s_aln C0 (d_X11_clause_0) hgz (s_callV C0 hE (c_X11_kindHere l) wg1379 wg1376 wg1378 ws87 wg12 ⟨by decide, by decide⟩ (by decide +kernel) (c0 := 11) rfl ⟨by decide, by decide⟩ ⟨by decide, by decide⟩ (d_X11_clause_1) (fun x hx => (hno x hx).elim) ⟨by decide, by decide⟩ ⟨by decide, by decide⟩ (s_isn C0 (d_X11_clause_4) hgz (s_iln C0 (d_X11_clause_5) hgz (s_ic C0 (d_X11_clause_6) hgz (s_cne C0 (d_X11_clause_7) (by decide) hgz hgz (fun _ _ _ h => h) (s_aln C0 (d_X11_clause_10) hgz (s_ic C0 (d_X11_clause_11) hgz (s_aln C0 (d_X11_clause_12) hgz (s_gi C0 (j := 4) (c0 := 11) rfl gX11 (by decide) rfl (by decide) wg1205 (d_X11_clause_13) hgz (s_callV C0 hE (c_X11_wrong l) wg1398 wg1395 wg1397 ws90 wg12 ⟨by decide, by decide⟩ (by decide +kernel) (c0 := 11) rfl ⟨by decide, by decide⟩ ⟨by decide, by decide⟩ (d_X11_clause_16) (fun x hx => (hno x hx).elim) ⟨by decide, by decide⟩ ⟨by decide, by decide⟩ (s_goto C0 (tgt := 48) (d_X11_clause_19) (by decide) hgz (fun _ _ _ h => h))))) (okn rfl)))) (okn rfl))))),
  s_aln C0 (d_X11_clause_22) hgz (s_gi C0 (j := 7) (c0 := 11) rfl gX11 (by decide) rfl (by decide) wg1208 (d_X11_clause_23) hgz (s_bi C0 (d_X11_clause_26) hgz (s_ceq C0 (d_X11_clause_28) (by decide) hgz hgz (fun _ _ _ h => h) (s_aln C0 (d_X11_clause_31) hgz (s_iln C0 (d_X11_clause_32) hgz (s_callV C0 hE (c_X11_isFull l) wg1402 wg1399 wg1401 ws91 wg12 ⟨by decide, by decide⟩ (by decide +kernel) (c0 := 11) rfl ⟨by decide, by decide⟩ ⟨by decide, by decide⟩ (d_X11_clause_33) (fun x hx => (hno x hx).elim) ⟨by decide, by decide⟩ ⟨by decide, by decide⟩ (s_zeq C0 (d_X11_clause_36) (by decide) hgz hgz (fun _ _ _ h => h) (fun _ _ _ h => h)))))) (okn rfl) rfl)),
  s_aln C0 (d_X11_clause_39) hgz (s_ic C0 (d_X11_clause_40) hgz (s_aln C0 (d_X11_clause_41) hgz (s_gi C0 (j := 4) (c0 := 11) rfl gX11 (by decide) rfl (by decide) wg1205 (d_X11_clause_42) hgz (s_callV C0 hE (c_X11_wrong l) wg1398 wg1395 wg1397 ws90 wg12 ⟨by decide, by decide⟩ (by decide +kernel) (c0 := 11) rfl ⟨by decide, by decide⟩ ⟨by decide, by decide⟩ (d_X11_clause_45) (fun x hx => (hno x hx).elim) ⟨by decide, by decide⟩ ⟨by decide, by decide⟩ (fun _ _ _ h => h)))) (okn rfl)),
  s_aln C0 (d_X11_clause_48) hgz (s_gi C0 (j := 5) (c0 := 11) rfl gX11 (by decide) rfl (by decide) wg1206 (d_X11_clause_49) hgz (s_zeq C0 (d_X11_clause_52) (by decide) hgz hgz (fun _ _ _ h => h) (s_rv C0 hr (d_X11_clause_55) ⟨by decide, by decide⟩))),
  s_aln C0 (d_X11_clause_56) hgz (s_callV C0 hE (c_X11_skipWord l) wg1406 wg1403 wg1405 ws92 wg12 ⟨by decide, by decide⟩ (by decide +kernel) (c0 := 11) rfl ⟨by decide, by decide⟩ ⟨by decide, by decide⟩ (d_X11_clause_57) (fun x hx => (hno x hx).elim) ⟨by decide, by decide⟩ ⟨by decide, by decide⟩ (s_aln C0 (d_X11_clause_60) hgz (s_dup C0 (d_X11_clause_61) hgz (s_gi C0 (j := 7) (c0 := 11) rfl gX11 (by decide) rfl (by decide) wg1208 (d_X11_clause_62) hgz (s_ic C0 (d_X11_clause_65) hgz (s_add C0 (d_X11_clause_66) hgz (s_pi C0 (j := 7) (c0 := 11) rfl gX11 tyX11_ok nmX11 (by decide) rfl (by decide) rfl rfl wg1208 (d_X11_clause_67) hgz (s_iln C0 (d_X11_clause_70) hgz (s_tab C0 (d_X11_clause_71) (by decide) (by decide) (by decide) (by decide) (fun _ _ => hgz) (fun _ _ _ _ _ h => h))))) (okn rfl)))))),
  s_aln C0 (d_X11_clause_104) hgz (s_gr C0 (j := 12) (c0 := 11) rfl gX11 (by decide) rfl rfl wg1213 (d_X11_clause_105) hgz (s_aln C0 (d_X11_clause_108) hgz (s_gr C0 (j := 10) (c0 := 11) rfl gX11 (by decide) rfl rfl wg1211 (d_X11_clause_109) hgz (s_ic C0 (d_X11_clause_112) hgz (s_ia C0 (d_X11_clause_113) hgz (s_aa C0 (by decide) (by decide) rfl rfl (d_X11_clause_114) hgz (s_asn C0 (d_X11_clause_115) hgz (s_aln C0 (d_X11_clause_116) hgz (s_ic C0 (d_X11_clause_117) hgz (s_aln C0 (d_X11_clause_118) hgz (s_ic C0 (d_X11_clause_119) hgz (s_ic C0 (d_X11_clause_120) hgz (s_callV C0 hE (c_X11_number l) wg1410 wg1407 wg1409 ws93 wg12 ⟨by decide, by decide⟩ (by decide +kernel) (c0 := 11) rfl ⟨by decide, by decide⟩ ⟨by decide, by decide⟩ (d_X11_clause_121) (fun x hx => (hno x hx).elim) ⟨by decide, by decide⟩ ⟨by decide, by decide⟩ (s_iax C0 (d_X11_clause_124) hgz (s_aln C0 (d_X11_clause_125) hgz (s_ic C0 (d_X11_clause_126) hgz (s_aln C0 (d_X11_clause_127) hgz (s_ic C0 (d_X11_clause_128) hgz (s_bi C0 (d_X11_clause_129) hgz (s_callV C0 hE (c_X11_number l) wg1410 wg1407 wg1409 ws93 wg12 ⟨by decide, by decide⟩ (by decide +kernel) (c0 := 11) rfl ⟨by decide, by decide⟩ ⟨by decide, by decide⟩ (d_X11_clause_131) (fun x hx => (hno x hx).elim) ⟨by decide, by decide⟩ ⟨by decide, by decide⟩ (s_iax C0 (d_X11_clause_134) hgz (s_aln C0 (d_X11_clause_135) hgz (s_gr C0 (j := 10) (c0 := 11) rfl gX11 (by decide) rfl rfl wg1211 (d_X11_clause_136) hgz (s_ic C0 (d_X11_clause_139) hgz (s_dup2 C0 (d_X11_clause_140) hgz (s_ia C0 (d_X11_clause_141) hgz (s_ic C0 (d_X11_clause_142) hgz (s_add C0 (d_X11_clause_143) hgz (s_iax C0 (d_X11_clause_144) hgz (s_goto C0 (tgt := 307) (d_X11_clause_145) (by decide) hgz (fun _ _ _ h => h)))) (okn rfl)))) (okn rfl)))))) (okn rfl) rfl) (okn rfl))) (okn rfl))))) (okn rfl)) (okn rfl))) (okn rfl)))))) (okn rfl))))),
  s_aln C0 (d_X11_clause_148) hgz (s_gr C0 (j := 20) (c0 := 11) rfl gX11 (by decide) rfl rfl wg1221 (d_X11_clause_149) hgz (s_aln C0 (d_X11_clause_152) hgz (s_gr C0 (j := 10) (c0 := 11) rfl gX11 (by decide) rfl rfl wg1211 (d_X11_clause_153) hgz (s_ic C0 (d_X11_clause_156) hgz (s_ia C0 (d_X11_clause_157) hgz (s_aln C0 (d_X11_clause_158) hgz (s_ic C0 (d_X11_clause_159) hgz (s_bi C0 (d_X11_clause_160) hgz (s_callV C0 hE (c_X11_number l) wg1410 wg1407 wg1409 ws93 wg12 ⟨by decide, by decide⟩ (by decide +kernel) (c0 := 11) rfl ⟨by decide, by decide⟩ ⟨by decide, by decide⟩ (d_X11_clause_162) (fun x hx => (hno x hx).elim) ⟨by decide, by decide⟩ ⟨by decide, by decide⟩ (s_iax C0 (d_X11_clause_165) hgz (s_aln C0 (d_X11_clause_166) hgz (s_gr C0 (j := 10) (c0 := 11) rfl gX11 (by decide) rfl rfl wg1211 (d_X11_clause_167) hgz (s_ic C0 (d_X11_clause_170) hgz (s_dup2 C0 (d_X11_clause_171) hgz (s_ia C0 (d_X11_clause_172) hgz (s_ic C0 (d_X11_clause_173) hgz (s_add C0 (d_X11_clause_174) hgz (s_iax C0 (d_X11_clause_175) hgz (s_goto C0 (tgt := 307) (d_X11_clause_176) (by decide) hgz (fun _ _ _ h => h)))) (okn rfl)))) (okn rfl)))))) (okn rfl) rfl) (okn rfl)))) (okn rfl))))),
  s_aln C0 (d_X11_clause_179) hgz (s_aln C0 (d_X11_clause_180) hgz (s_gr C0 (j := 16) (c0 := 11) rfl gX11 (by decide) rfl rfl wg1217 (d_X11_clause_181) hgz (s_aln C0 (d_X11_clause_184) hgz (s_gr C0 (j := 10) (c0 := 11) rfl gX11 (by decide) rfl rfl wg1211 (d_X11_clause_185) hgz (s_ic C0 (d_X11_clause_188) hgz (s_ia C0 (d_X11_clause_189) hgz (s_aa C0 (by decide) (by decide) rfl rfl (d_X11_clause_190) hgz (s_callV C0 hE (c_X11_readsMotion l) wg1418 wg1415 wg1417 ws94 wg12 ⟨by decide, by decide⟩ (by decide +kernel) (c0 := 11) rfl ⟨by decide, by decide⟩ ⟨by decide, by decide⟩ (d_X11_clause_191) (fun x hx => (hno x hx).elim) ⟨by decide, by decide⟩ ⟨by decide, by decide⟩ (s_goto C0 (tgt := 307) (d_X11_clause_194) (by decide) hgz (fun _ _ _ h => h))))) (okn rfl)))))),
  s_aln C0 (d_X11_clause_197) hgz (s_gr C0 (j := 10) (c0 := 11) rfl gX11 (by decide) rfl rfl wg1211 (d_X11_clause_198) hgz (s_ic C0 (d_X11_clause_201) hgz (s_aln C0 (d_X11_clause_202) hgz (s_ic C0 (d_X11_clause_203) hgz (s_ic C0 (d_X11_clause_204) hgz (s_callV C0 hE (c_X11_number l) wg1410 wg1407 wg1409 ws93 wg12 ⟨by decide, by decide⟩ (by decide +kernel) (c0 := 11) rfl ⟨by decide, by decide⟩ ⟨by decide, by decide⟩ (d_X11_clause_205) (fun x hx => (hno x hx).elim) ⟨by decide, by decide⟩ ⟨by decide, by decide⟩ (s_iax C0 (d_X11_clause_208) hgz (s_goto C0 (tgt := 307) (d_X11_clause_209) (by decide) hgz (fun _ _ _ h => h)))) (okn rfl)) (okn rfl))) (okn rfl))),
  s_aln C0 (d_X11_clause_212) hgz (s_gr C0 (j := 14) (c0 := 11) rfl gX11 (by decide) rfl rfl wg1215 (d_X11_clause_213) hgz (s_aln C0 (d_X11_clause_216) hgz (s_gr C0 (j := 10) (c0 := 11) rfl gX11 (by decide) rfl rfl wg1211 (d_X11_clause_217) hgz (s_ic C0 (d_X11_clause_220) hgz (s_ia C0 (d_X11_clause_221) hgz (s_aa C0 (by decide) (by decide) rfl rfl (d_X11_clause_222) hgz (s_asn C0 (d_X11_clause_223) hgz (s_aln C0 (d_X11_clause_224) hgz (s_ic C0 (d_X11_clause_225) hgz (s_aln C0 (d_X11_clause_226) hgz (s_ic C0 (d_X11_clause_227) hgz (s_aln C0 (d_X11_clause_228) hgz (s_gr C0 (j := 10) (c0 := 11) rfl gX11 (by decide) rfl rfl wg1211 (d_X11_clause_229) hgz (s_ic C0 (d_X11_clause_232) hgz (s_ia C0 (d_X11_clause_233) hgz (s_ic C0 (d_X11_clause_234) hgz (s_sub C0 (d_X11_clause_235) hgz (s_callV C0 hE (c_X11_number l) wg1410 wg1407 wg1409 ws93 wg12 ⟨by decide, by decide⟩ (by decide +kernel) (c0 := 11) rfl ⟨by decide, by decide⟩ ⟨by decide, by decide⟩ (d_X11_clause_236) (fun x hx => (hno x hx).elim) ⟨by decide, by decide⟩ ⟨by decide, by decide⟩ (s_iax C0 (d_X11_clause_239) hgz (s_aln C0 (d_X11_clause_240) hgz (s_ic C0 (d_X11_clause_241) hgz (s_aln C0 (d_X11_clause_242) hgz (s_ic C0 (d_X11_clause_243) hgz (s_bi C0 (d_X11_clause_244) hgz (s_callV C0 hE (c_X11_number l) wg1410 wg1407 wg1409 ws93 wg12 ⟨by decide, by decide⟩ (by decide +kernel) (c0 := 11) rfl ⟨by decide, by decide⟩ ⟨by decide, by decide⟩ (d_X11_clause_246) (fun x hx => (hno x hx).elim) ⟨by decide, by decide⟩ ⟨by decide, by decide⟩ (s_iax C0 (d_X11_clause_249) hgz (s_aln C0 (d_X11_clause_250) hgz (s_ic C0 (d_X11_clause_251) hgz (s_iln C0 (d_X11_clause_252) hgz (s_ic C0 (d_X11_clause_253) hgz (s_cne C0 (d_X11_clause_254) (by decide) hgz hgz (fun _ _ _ h => h) (s_ic C0 (d_X11_clause_257) hgz (s_goto C0 (tgt := 274) (d_X11_clause_258) (by decide) hgz (fun _ _ _ h => h)) (okn rfl))) (okn rfl))) (okn rfl))))) (okn rfl) rfl) (okn rfl))) (okn rfl)))))) (okn rfl))) (okn rfl)))) (okn rfl))) (okn rfl)))))) (okn rfl))))),
  s_aln C0 (d_X11_clause_261) hgz (s_ic C0 (d_X11_clause_262) hgz (s_aln C0 (d_X11_clause_263) hgz (s_gr C0 (j := 10) (c0 := 11) rfl gX11 (by decide) rfl rfl wg1211 (d_X11_clause_264) hgz (s_ic C0 (d_X11_clause_267) hgz (s_ia C0 (d_X11_clause_268) hgz (s_ic C0 (d_X11_clause_269) hgz (s_sub C0 (d_X11_clause_270) hgz (s_callV C0 hE (c_X11_number l) wg1410 wg1407 wg1409 ws93 wg12 ⟨by decide, by decide⟩ (by decide +kernel) (c0 := 11) rfl ⟨by decide, by decide⟩ ⟨by decide, by decide⟩ (d_X11_clause_271) (fun x hx => (hno x hx).elim) ⟨by decide, by decide⟩ ⟨by decide, by decide⟩ (fun _ _ _ h => h))) (okn rfl))) (okn rfl)))) (okn rfl)),
  s_iax C0 (d_X11_clause_274) hgz (s_aln C0 (d_X11_clause_275) hgz (s_ic C0 (d_X11_clause_276) hgz (s_iln C0 (d_X11_clause_277) hgz (s_ic C0 (d_X11_clause_278) hgz (s_cne C0 (d_X11_clause_279) (by decide) hgz hgz (fun _ _ _ h => h) (s_ic C0 (d_X11_clause_282) hgz (s_goto C0 (tgt := 293) (d_X11_clause_283) (by decide) hgz (fun _ _ _ h => h)) (okn rfl))) (okn rfl))) (okn rfl))),
  s_aln C0 (d_X11_clause_286) hgz (s_ic C0 (d_X11_clause_287) hgz (s_bi C0 (d_X11_clause_288) hgz (s_callV C0 hE (c_X11_number l) wg1410 wg1407 wg1409 ws93 wg12 ⟨by decide, by decide⟩ (by decide +kernel) (c0 := 11) rfl ⟨by decide, by decide⟩ ⟨by decide, by decide⟩ (d_X11_clause_290) (fun x hx => (hno x hx).elim) ⟨by decide, by decide⟩ ⟨by decide, by decide⟩ (fun _ _ _ h => h)) (okn rfl) rfl) (okn rfl)),
  s_iax C0 (d_X11_clause_293) hgz (s_aln C0 (d_X11_clause_294) hgz (s_gr C0 (j := 10) (c0 := 11) rfl gX11 (by decide) rfl rfl wg1211 (d_X11_clause_295) hgz (s_ic C0 (d_X11_clause_298) hgz (s_dup2 C0 (d_X11_clause_299) hgz (s_ia C0 (d_X11_clause_300) hgz (s_ic C0 (d_X11_clause_301) hgz (s_add C0 (d_X11_clause_302) hgz (s_iax C0 (d_X11_clause_303) hgz (s_goto C0 (tgt := 307) (d_X11_clause_304) (by decide) hgz (fun _ _ _ h => h)))) (okn rfl)))) (okn rfl)))),
  s_aln C0 (d_X11_clause_307) hgz (s_callV C0 hE (c_X11_closes l) wg1422 wg1419 wg1421 ws95 wg12 ⟨by decide, by decide⟩ (by decide +kernel) (c0 := 11) rfl ⟨by decide, by decide⟩ ⟨by decide, by decide⟩ (d_X11_clause_308) (fun x hx => (hno x hx).elim) ⟨by decide, by decide⟩ ⟨by decide, by decide⟩ (s_rv C0 hr (d_X11_clause_311) ⟨by decide, by decide⟩))⟩
theorem c_X11_clause (l : Launch) : Ctr l yX11_clause cX11_clause 3 none 15 306 0 (fun sx => (nf G_X11_clause)) := ctr_of (by decide) gz gz ⟨rfl, rfl⟩ (fun p e s m args below meth c D ca ad sx sy A Q as M C0 hE hr hno hF => P_X11_clause (L_X11_clause C0 hE hr hno) hF)
