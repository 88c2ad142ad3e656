theorem d_X4_turn_0 : decode cX4_turn 0 = .ok (.iconst 0, 1) := by decide +kernel
theorem d_X4_turn_1 : decode cX4_turn 1 = .ok (.istore 4, 2) := by decide +kernel
theorem d_X4_turn_3 : decode cX4_turn 3 = .ok (.iload 4, 2) := by decide +kernel
theorem d_X4_turn_5 : decode cX4_turn 5 = .ok (.iload_n 3, 1) := by decide +kernel
theorem d_X4_turn_6 : decode cX4_turn 6 = .ok (.if_icmp .ge 33, 3) := by decide +kernel
theorem d_X4_turn_9 : decode cX4_turn 9 = .ok (.aload_n 0, 1) := by decide +kernel
theorem d_X4_turn_10 : decode cX4_turn 10 = .ok (.getfield 9, 3) := by decide +kernel
theorem d_X4_turn_13 : decode cX4_turn 13 = .ok (.iload 4, 2) := by decide +kernel
theorem d_X4_turn_15 : decode cX4_turn 15 = .ok (.dup2, 1) := by decide +kernel
theorem d_X4_turn_16 : decode cX4_turn 16 = .ok (.iaload, 1) := by decide +kernel
theorem d_X4_turn_17 : decode cX4_turn 17 = .ok (.iload_n 2, 1) := by decide +kernel
theorem d_X4_turn_18 : decode cX4_turn 18 = .ok (.aload_n 0, 1) := by decide +kernel
theorem d_X4_turn_19 : decode cX4_turn 19 = .ok (.getfield 15, 3) := by decide +kernel
theorem d_X4_turn_22 : decode cX4_turn 22 = .ok (.iload 4, 2) := by decide +kernel
theorem d_X4_turn_24 : decode cX4_turn 24 = .ok (.bipush 14, 2) := by decide +kernel
theorem d_X4_turn_26 : decode cX4_turn 26 = .ok (.imul, 1) := by decide +kernel
theorem d_X4_turn_27 : decode cX4_turn 27 = .ok (.iload_n 1, 1) := by decide +kernel
theorem d_X4_turn_28 : decode cX4_turn 28 = .ok (.iadd, 1) := by decide +kernel
theorem d_X4_turn_29 : decode cX4_turn 29 = .ok (.iaload, 1) := by decide +kernel
theorem d_X4_turn_30 : decode cX4_turn 30 = .ok (.imul, 1) := by decide +kernel
theorem d_X4_turn_31 : decode cX4_turn 31 = .ok (.iadd, 1) := by decide +kernel
theorem d_X4_turn_32 : decode cX4_turn 32 = .ok (.iastore, 1) := by decide +kernel
theorem d_X4_turn_33 : decode cX4_turn 33 = .ok (.iinc 4 1, 3) := by decide +kernel
theorem d_X4_turn_36 : decode cX4_turn 36 = .ok (.goto (-33), 3) := by decide +kernel
theorem d_X4_turn_39 : decode cX4_turn 39 = .ok (.return_, 1) := by decide +kernel
set_option maxRecDepth 100000 in
theorem L_X4_turn {p : Program} {l : Launch} {e : Env} {s : State} {m : MethodId} {args : Array Value} {below : List Frame} {meth : Method} {c : Code} {D : va_G} {ca : Nat → ClassId} {ad sx sy : Nat → Nat} {A : Nat → Prop} {Q : QT} (C0 : CX p s m args meth c cX4_turn 5 yX4_turn.cls D ca ad A) (hE : EX sx sy A s s.heap) (hr : meth.sig.returnType = none) (hno : ∀ x ∈ c.exceptionTable.toList, False) : R_X4_turn (JW p l e { frames := 10, cells := 0, slots := 6 * 0, locals := 200 } s m args below meth c 5 D ca ad A (vx_MQ below (Qn D ca ad A Q) (Qx D ca ad A Q) args s 0 (6 * 0) A) gz gz true) Q := ⟨s_ic C0 (d_X4_turn_0) hgz (s_is C0 (d_X4_turn_1) hgz (fun _ _ _ h => h)) (okn rfl),
  s_il C0 (d_X4_turn_3) hgz (s_iln C0 (d_X4_turn_5) hgz (s_cge C0 (d_X4_turn_6) (by decide) hgz hgz (fun _ _ _ h => h) (s_aln C0 (d_X4_turn_9) hgz (s_gr C0 (j := 5) (c0 := 4) rfl gX4 (by decide) rfl rfl wg376 (d_X4_turn_10) hgz (s_il C0 (d_X4_turn_13) hgz (s_dup2 C0 (d_X4_turn_15) hgz (s_ia C0 (d_X4_turn_16) hgz (s_iln C0 (d_X4_turn_17) hgz (s_aln C0 (d_X4_turn_18) hgz (s_gr C0 (j := 6) (c0 := 4) rfl gX4 (by decide) rfl rfl wg377 (d_X4_turn_19) hgz (s_il C0 (d_X4_turn_22) hgz (s_bi C0 (d_X4_turn_24) hgz (s_mul C0 (d_X4_turn_26) hgz (s_iln C0 (d_X4_turn_27) hgz (s_add C0 (d_X4_turn_28) hgz (s_ia C0 (d_X4_turn_29) hgz (s_mul C0 (d_X4_turn_30) hgz (s_add C0 (d_X4_turn_31) hgz (s_iax C0 (d_X4_turn_32) hgz (s_inc C0 (d_X4_turn_33) hgz (s_goto C0 (tgt := 3) (d_X4_turn_36) (by decide) hgz (fun _ _ _ h => h)))))))))) (okn rfl) rfl)))))))))))),
  s_rv C0 hr (d_X4_turn_39) ⟨by decide, by decide⟩⟩
theorem c_X4_turn (l : Launch) : Ctr l yX4_turn cX4_turn 5 none 10 200 0 (fun sx => (nf G_X4_turn)) := ctr_of (by decide) gz gz ⟨rfl, rfl⟩ (fun p e s m args below meth c D ca ad sx sy A Q as M C0 hE hr hno hF => P_X4_turn (L_X4_turn C0 hE hr hno) hF)
theorem d_X6_allThings_0 : decode cX6_allThings 0 = .ok (.iconst 1, 1) := by decide +kernel
theorem d_X6_allThings_1 : decode cX6_allThings 1 = .ok (.aload_n 0, 1) := by decide +kernel
theorem d_X6_allThings_2 : decode cX6_allThings 2 = .ok (.getfield 46, 3) := by decide +kernel
theorem d_X6_allThings_5 : decode cX6_allThings 5 = .ok (.ishl, 1) := by decide +kernel
theorem d_X6_allThings_6 : decode cX6_allThings 6 = .ok (.iconst 1, 1) := by decide +kernel
theorem d_X6_allThings_7 : decode cX6_allThings 7 = .ok (.isub, 1) := by decide +kernel
theorem d_X6_allThings_8 : decode cX6_allThings 8 = .ok (.ireturn, 1) := by decide +kernel
set_option maxRecDepth 100000 in
theorem L_X6_allThings {p : Program} {l : Launch} {e : Env} {s : State} {m : MethodId} {args : Array Value} {below : List Frame} {meth : Method} {c : Code} {D : va_G} {ca : Nat → ClassId} {ad sx sy : Nat → Nat} {A : Nat → Prop} {Q : QT} (C0 : CX p s m args meth c cX6_allThings 1 yX6_allThings.cls D ca ad A) (hE : EX sx sy A s s.heap) (hr : meth.sig.returnType = (some .int)) (hno : ∀ x ∈ c.exceptionTable.toList, False) : R_X6_allThings (JW p l e { frames := 10, cells := 0, slots := 6 * 0, locals := 200 } s m args below meth c 1 D ca ad A (vx_MQ below (Qn D ca ad A Q) (Qx D ca ad A Q) args s 0 (6 * 0) A) gz gz true) Q := s_ic C0 (d_X6_allThings_0) hgz (s_aln C0 (d_X6_allThings_1) hgz (s_gi C0 (j := 3) (c0 := 6) rfl gX6 (by decide) rfl (by decide) wg84 (d_X6_allThings_2) hgz (s_shl C0 (d_X6_allThings_5) hgz (s_ic C0 (d_X6_allThings_6) hgz (s_sub C0 (d_X6_allThings_7) hgz (s_ri C0 hr (d_X6_allThings_8) ⟨by decide, by decide⟩)) (okn rfl))))) (okn rfl)
theorem c_X6_allThings (l : Launch) : Ctr l yX6_allThings cX6_allThings 1 (some .int) 10 200 0 (fun sx => (nf G_X6_allThings)) := ctr_of (by decide) gz gz ⟨rfl, rfl⟩ (fun p e s m args below meth c D ca ad sx sy A Q as M C0 hE hr hno hF => P_X6_allThings (L_X6_allThings C0 hE hr hno) hF)
theorem wg374 : Cond.fieldLink "WeighedHall$Hollows" 85 "WeighedHall$Hollows" "fewest" "I" ∈ GT := gt_mem 494 (by decide +kernel) rfl
theorem wg481 : Cond.code ⟨"java/lang/Integer", "bitCount", "(I)I"⟩ prog_19_method_49_code 1 (Option.some .int) ∈ GT := gt_mem 601 (by decide +kernel) rfl
theorem wg24 : Cond.initialized "java/lang/Integer" ∈ GT := gt_mem 144 (by decide +kernel) rfl
theorem wg1160 : Cond.methodLink "WeighedHall$Hollows" 88 ⟨"java/lang/Integer", "bitCount", "(I)I"⟩ ∈ GT := gt_mem 1280 (by decide +kernel) rfl
theorem wg480 : Cond.static ⟨"java/lang/Integer", "bitCount", "(I)I"⟩ ∈ GT := gt_mem 600 (by decide +kernel) rfl
theorem d_X4_isFewer_0 : decode cX4_isFewer 0 = .ok (.iload_n 1, 1) := by decide +kernel
theorem d_X4_isFewer_1 : decode cX4_isFewer 1 = .ok (.invokestatic 88, 3) := by decide +kernel
theorem d_X4_isFewer_4 : decode cX4_isFewer 4 = .ok (.istore_n 2, 1) := by decide +kernel
theorem d_X4_isFewer_5 : decode cX4_isFewer 5 = .ok (.aload_n 0, 1) := by decide +kernel
theorem d_X4_isFewer_6 : decode cX4_isFewer 6 = .ok (.getfield 85, 3) := by decide +kernel
theorem d_X4_isFewer_9 : decode cX4_isFewer 9 = .ok (.invokestatic 88, 3) := by decide +kernel
theorem d_X4_isFewer_12 : decode cX4_isFewer 12 = .ok (.istore_n 3, 1) := by decide +kernel
theorem d_X4_isFewer_13 : decode cX4_isFewer 13 = .ok (.iload_n 2, 1) := by decide +kernel
theorem d_X4_isFewer_14 : decode cX4_isFewer 14 = .ok (.iload_n 3, 1) := by decide +kernel
theorem d_X4_isFewer_15 : decode cX4_isFewer 15 = .ok (.if_icmp .lt 16, 3) := by decide +kernel
theorem d_X4_isFewer_18 : decode cX4_isFewer 18 = .ok (.iload_n 2, 1) := by decide +kernel
theorem d_X4_isFewer_19 : decode cX4_isFewer 19 = .ok (.iload_n 3, 1) := by decide +kernel
theorem d_X4_isFewer_20 : decode cX4_isFewer 20 = .ok (.if_icmp .ne 15, 3) := by decide +kernel
theorem d_X4_isFewer_23 : decode cX4_isFewer 23 = .ok (.iload_n 1, 1) := by decide +kernel
theorem d_X4_isFewer_24 : decode cX4_isFewer 24 = .ok (.aload_n 0, 1) := by decide +kernel
theorem d_X4_isFewer_25 : decode cX4_isFewer 25 = .ok (.getfield 85, 3) := by decide +kernel
theorem d_X4_isFewer_28 : decode cX4_isFewer 28 = .ok (.if_icmp .ge 7, 3) := by decide +kernel
theorem d_X4_isFewer_31 : decode cX4_isFewer 31 = .ok (.iconst 1, 1) := by decide +kernel
theorem d_X4_isFewer_32 : decode cX4_isFewer 32 = .ok (.goto 4, 3) := by decide +kernel
theorem d_X4_isFewer_35 : decode cX4_isFewer 35 = .ok (.iconst 0, 1) := by decide +kernel
theorem d_X4_isFewer_36 : decode cX4_isFewer 36 = .ok (.ireturn, 1) := by decide +kernel
set_option maxRecDepth 100000 in
theorem L_X4_isFewer {p : Program} {l : Launch} {e : Env} {s : State} {m : MethodId} {args : Array Value} {below : List Frame} {meth : Method} {c : Code} {D : va_G} {ca : Nat → ClassId} {ad sx sy : Nat → Nat} {A : Nat → Prop} {Q : QT} (C0 : CX p s m args meth c cX4_isFewer 4 yX4_isFewer.cls D ca ad A) (hE : EX sx sy A s s.heap) (hr : meth.sig.returnType = (some .boolean)) (hno : ∀ x ∈ c.exceptionTable.toList, False) : R_X4_isFewer (JW p l e { frames := 11, cells := 0, slots := 6 * 0, locals := 220 } s m args below meth c 4 D ca ad A (vx_MQ below (Qn D ca ad A Q) (Qx D ca ad A Q) args s 0 (6 * 0) A) gz gz true) Q := ⟨s_iln C0 (d_X4_isFewer_0) hgz (s_callS C0 hE (c_J6_bitCount_0f7a4 l) wg481 wg1160 wg480 wg24 ⟨by decide, by decide⟩ (by decide +kernel) ⟨by decide, by decide⟩ ⟨by decide, by decide⟩ (d_X4_isFewer_1) (fun x hx => (hno x hx).elim) ⟨by decide, by decide⟩ ⟨by decide, by decide⟩ (s_isn C0 (d_X4_isFewer_4) hgz (s_aln C0 (d_X4_isFewer_5) hgz (s_gi C0 (j := 4) (c0 := 4) rfl gX4 (by decide) rfl (by decide) wg374 (d_X4_isFewer_6) hgz (s_callS C0 hE (c_J6_bitCount_0f7a4 l) wg481 wg1160 wg480 wg24 ⟨by decide, by decide⟩ (by decide +kernel) ⟨by decide, by decide⟩ ⟨by decide, by decide⟩ (d_X4_isFewer_9) (fun x hx => (hno x hx).elim) ⟨by decide, by decide⟩ ⟨by decide, by decide⟩ (s_isn C0 (d_X4_isFewer_12) hgz (s_iln C0 (d_X4_isFewer_13) hgz (s_iln C0 (d_X4_isFewer_14) hgz (s_clt C0 (d_X4_isFewer_15) (by decide) hgz hgz (fun _ _ _ h => h) (s_iln C0 (d_X4_isFewer_18) hgz (s_iln C0 (d_X4_isFewer_19) hgz (s_cne C0 (d_X4_isFewer_20) (by decide) hgz hgz (fun _ _ _ h => h) (s_iln C0 (d_X4_isFewer_23) hgz (s_aln C0 (d_X4_isFewer_24) hgz (s_gi C0 (j := 4) (c0 := 4) rfl gX4 (by decide) rfl (by decide) wg374 (d_X4_isFewer_25) hgz (s_cge C0 (d_X4_isFewer_28) (by decide) hgz hgz (fun _ _ _ h => h) (fun _ _ _ h => h))))))))))))))))),
  s_ic C0 (d_X4_isFewer_31) hgz (s_goto C0 (tgt := 36) (d_X4_isFewer_32) (by decide) hgz (fun _ _ _ h => h)) (okn rfl),
  s_ic C0 (d_X4_isFewer_35) hgz (fun _ _ _ h => h) (okn rfl),
  s_rz C0 hr (d_X4_isFewer_36) ⟨by decide, by decide⟩⟩
theorem c_X4_isFewer (l : Launch) : Ctr l yX4_isFewer cX4_isFewer 4 (some .boolean) 11 220 0 (fun sx => (nf G_X4_isFewer)) := ctr_of (by decide) gz gz ⟨rfl, rfl⟩ (fun p e s m args below meth c D ca ad sx sy A Q as M C0 hE hr hno hF => P_X4_isFewer (L_X4_isFewer C0 hE hr hno) hF)
theorem wg1159 : Cond.code ⟨"WeighedHall$Hollows", "isFewer", "(I)Z"⟩ prog_6_method_6_code 4 (Option.some .boolean) ∈ GT := gt_mem 1279 (by decide +kernel) rfl
theorem wg11 : Cond.initialized "WeighedHall$Hollows" ∈ GT := gt_mem 131 (by decide +kernel) rfl
theorem wg1156 : Cond.methodLink "WeighedHall$Hollows" 81 ⟨"WeighedHall$Hollows", "isFewer", "(I)Z"⟩ ∈ GT := gt_mem 1276 (by decide +kernel) rfl
theorem wg1158 : Cond.instanceMethod ⟨"WeighedHall$Hollows", "isFewer", "(I)Z"⟩ ∈ GT := gt_mem 1278 (by decide +kernel) rfl
theorem ws78 : Cond.selects "WeighedHall$Hollows" ⟨"WeighedHall$Hollows", "isFewer", "(I)Z"⟩ ⟨"WeighedHall$Hollows", "isFewer", "(I)Z"⟩ ∈ GT := gt_mem 78 (by decide +kernel) rfl
theorem wg368 : Cond.fieldLink "WeighedHall$Hollows" 18 "WeighedHall$Hollows" "sets" "I" ∈ GT := gt_mem 488 (by decide +kernel) rfl
theorem wg372 : Cond.fieldLink "WeighedHall$Hollows" 31 "WeighedHall$Hollows" "inAny" "I" ∈ GT := gt_mem 492 (by decide +kernel) rfl
theorem wg370 : Cond.fieldLink "WeighedHall$Hollows" 28 "WeighedHall$Hollows" "inAll" "I" ∈ GT := gt_mem 490 (by decide +kernel) rfl
theorem d_X4_lookAt_0 : decode cX4_lookAt 0 = .ok (.iconst 0, 1) := by decide +kernel
theorem d_X4_lookAt_1 : decode cX4_lookAt 1 = .ok (.istore_n 3, 1) := by decide +kernel
theorem d_X4_lookAt_2 : decode cX4_lookAt 2 = .ok (.iload_n 3, 1) := by decide +kernel
theorem d_X4_lookAt_3 : decode cX4_lookAt 3 = .ok (.iload_n 2, 1) := by decide +kernel
theorem d_X4_lookAt_4 : decode cX4_lookAt 4 = .ok (.if_icmp .ge 19, 3) := by decide +kernel
theorem d_X4_lookAt_7 : decode cX4_lookAt 7 = .ok (.aload_n 0, 1) := by decide +kernel
theorem d_X4_lookAt_8 : decode cX4_lookAt 8 = .ok (.getfield 9, 3) := by decide +kernel
theorem d_X4_lookAt_11 : decode cX4_lookAt 11 = .ok (.iload_n 3, 1) := by decide +kernel
theorem d_X4_lookAt_12 : decode cX4_lookAt 12 = .ok (.iaload, 1) := by decide +kernel
theorem d_X4_lookAt_13 : decode cX4_lookAt 13 = .ok (.ifCond .eq 4, 3) := by decide +kernel
theorem d_X4_lookAt_16 : decode cX4_lookAt 16 = .ok (.return_, 1) := by decide +kernel
theorem d_X4_lookAt_17 : decode cX4_lookAt 17 = .ok (.iinc 3 1, 3) := by decide +kernel
theorem d_X4_lookAt_20 : decode cX4_lookAt 20 = .ok (.goto (-18), 3) := by decide +kernel
theorem d_X4_lookAt_23 : decode cX4_lookAt 23 = .ok (.aload_n 0, 1) := by decide +kernel
theorem d_X4_lookAt_24 : decode cX4_lookAt 24 = .ok (.getfield 18, 3) := by decide +kernel
theorem d_X4_lookAt_27 : decode cX4_lookAt 27 = .ok (.ifCond .eq 11, 3) := by decide +kernel
theorem d_X4_lookAt_30 : decode cX4_lookAt 30 = .ok (.aload_n 0, 1) := by decide +kernel
theorem d_X4_lookAt_31 : decode cX4_lookAt 31 = .ok (.iload_n 1, 1) := by decide +kernel
theorem d_X4_lookAt_32 : decode cX4_lookAt 32 = .ok (.invokevirtual 81, 3) := by decide +kernel
theorem d_X4_lookAt_35 : decode cX4_lookAt 35 = .ok (.ifCond .eq 8, 3) := by decide +kernel
theorem d_X4_lookAt_38 : decode cX4_lookAt 38 = .ok (.aload_n 0, 1) := by decide +kernel
theorem d_X4_lookAt_39 : decode cX4_lookAt 39 = .ok (.iload_n 1, 1) := by decide +kernel
theorem d_X4_lookAt_40 : decode cX4_lookAt 40 = .ok (.putfield 85, 3) := by decide +kernel
theorem d_X4_lookAt_43 : decode cX4_lookAt 43 = .ok (.aload_n 0, 1) := by decide +kernel
theorem d_X4_lookAt_44 : decode cX4_lookAt 44 = .ok (.dup, 1) := by decide +kernel
theorem d_X4_lookAt_45 : decode cX4_lookAt 45 = .ok (.getfield 18, 3) := by decide +kernel
theorem d_X4_lookAt_48 : decode cX4_lookAt 48 = .ok (.iconst 1, 1) := by decide +kernel
theorem d_X4_lookAt_49 : decode cX4_lookAt 49 = .ok (.iadd, 1) := by decide +kernel
theorem d_X4_lookAt_50 : decode cX4_lookAt 50 = .ok (.putfield 18, 3) := by decide +kernel
theorem d_X4_lookAt_53 : decode cX4_lookAt 53 = .ok (.aload_n 0, 1) := by decide +kernel
theorem d_X4_lookAt_54 : decode cX4_lookAt 54 = .ok (.dup, 1) := by decide +kernel
theorem d_X4_lookAt_55 : decode cX4_lookAt 55 = .ok (.getfield 28, 3) := by decide +kernel
theorem d_X4_lookAt_58 : decode cX4_lookAt 58 = .ok (.iload_n 1, 1) := by decide +kernel
theorem d_X4_lookAt_59 : decode cX4_lookAt 59 = .ok (.iand, 1) := by decide +kernel
theorem d_X4_lookAt_60 : decode cX4_lookAt 60 = .ok (.putfield 28, 3) := by decide +kernel
theorem d_X4_lookAt_63 : decode cX4_lookAt 63 = .ok (.aload_n 0, 1) := by decide +kernel
theorem d_X4_lookAt_64 : decode cX4_lookAt 64 = .ok (.dup, 1) := by decide +kernel
theorem d_X4_lookAt_65 : decode cX4_lookAt 65 = .ok (.getfield 31, 3) := by decide +kernel
theorem d_X4_lookAt_68 : decode cX4_lookAt 68 = .ok (.iload_n 1, 1) := by decide +kernel
theorem d_X4_lookAt_69 : decode cX4_lookAt 69 = .ok (.ior, 1) := by decide +kernel
theorem d_X4_lookAt_70 : decode cX4_lookAt 70 = .ok (.putfield 31, 3) := by decide +kernel
theorem d_X4_lookAt_73 : decode cX4_lookAt 73 = .ok (.return_, 1) := by decide +kernel
set_option maxRecDepth 100000 in
theorem L_X4_lookAt {p : Program} {l : Launch} {e : Env} {s : State} {m : MethodId} {args : Array Value} {below : List Frame} {meth : Method} {c : Code} {D : va_G} {ca : Nat → ClassId} {ad sx sy : Nat → Nat} {A : Nat → Prop} {Q : QT} (C0 : CX p s m args meth c cX4_lookAt 4 yX4_lookAt.cls D ca ad A) (hE : EX sx sy A s s.heap) (hr : meth.sig.returnType = none) (hno : ∀ x ∈ c.exceptionTable.toList, False) : R_X4_lookAt (JW p l e { frames := 12, cells := 0, slots := 6 * 0, locals := 243 } s m args below meth c 4 D ca ad A (vx_MQ below (Qn D ca ad A Q) (Qx D ca ad A Q) args s 0 (6 * 0) A) gz gz true) Q := ⟨s_ic C0 (d_X4_lookAt_0) hgz (s_isn C0 (d_X4_lookAt_1) hgz (fun _ _ _ h => h)) (okn rfl),
  s_iln C0 (d_X4_lookAt_2) hgz (s_iln C0 (d_X4_lookAt_3) hgz (s_cge C0 (d_X4_lookAt_4) (by decide) hgz hgz (fun _ _ _ h => h) (s_aln C0 (d_X4_lookAt_7) hgz (s_gr C0 (j := 5) (c0 := 4) rfl gX4 (by decide) rfl rfl wg376 (d_X4_lookAt_8) hgz (s_iln C0 (d_X4_lookAt_11) hgz (s_ia C0 (d_X4_lookAt_12) hgz (s_zeq C0 (d_X4_lookAt_13) (by decide) hgz hgz (fun _ _ _ h => h) (s_rv C0 hr (d_X4_lookAt_16) ⟨by decide, by decide⟩)))))))),
  s_inc C0 (d_X4_lookAt_17) hgz (s_goto C0 (tgt := 2) (d_X4_lookAt_20) (by decide) hgz (fun _ _ _ h => h)),
  s_aln C0 (d_X4_lookAt_23) hgz (s_gi C0 (j := 1) (c0 := 4) rfl gX4 (by decide) rfl (by decide) wg368 (d_X4_lookAt_24) hgz (s_zeq C0 (d_X4_lookAt_27) (by decide) hgz hgz (fun _ _ _ h => h) (s_aln C0 (d_X4_lookAt_30) hgz (s_iln C0 (d_X4_lookAt_31) hgz (s_callV C0 hE (c_X4_isFewer l) wg1159 wg1156 wg1158 ws78 wg11 ⟨by decide, by decide⟩ (by decide +kernel) (c0 := 4) rfl ⟨by decide, by decide⟩ ⟨by decide, by decide⟩ (d_X4_lookAt_32) (fun x hx => (hno x hx).elim) ⟨by decide, by decide⟩ ⟨by decide, by decide⟩ (s_zeq C0 (d_X4_lookAt_35) (by decide) hgz hgz (fun _ _ _ h => h) (fun _ _ _ h => h))))))),
  s_aln C0 (d_X4_lookAt_38) hgz (s_iln C0 (d_X4_lookAt_39) hgz (s_pi C0 (j := 4) (c0 := 4) rfl gX4 tyX4_ok nmX4 (by decide) rfl (by decide) rfl rfl wg374 (d_X4_lookAt_40) hgz (fun _ _ _ h => h))),
  s_aln C0 (d_X4_lookAt_43) hgz (s_dup C0 (d_X4_lookAt_44) hgz (s_gi C0 (j := 1) (c0 := 4) rfl gX4 (by decide) rfl (by decide) wg368 (d_X4_lookAt_45) hgz (s_ic C0 (d_X4_lookAt_48) hgz (s_add C0 (d_X4_lookAt_49) hgz (s_pi C0 (j := 1) (c0 := 4) rfl gX4 tyX4_ok nmX4 (by decide) rfl (by decide) rfl rfl wg368 (d_X4_lookAt_50) hgz (s_aln C0 (d_X4_lookAt_53) hgz (s_dup C0 (d_X4_lookAt_54) hgz (s_gi C0 (j := 2) (c0 := 4) rfl gX4 (by decide) rfl (by decide) wg370 (d_X4_lookAt_55) hgz (s_iln C0 (d_X4_lookAt_58) hgz (s_and C0 (d_X4_lookAt_59) hgz (s_pi C0 (j := 2) (c0 := 4) rfl gX4 tyX4_ok nmX4 (by decide) rfl (by decide) rfl rfl wg370 (d_X4_lookAt_60) hgz (s_aln C0 (d_X4_lookAt_63) hgz (s_dup C0 (d_X4_lookAt_64) hgz (s_gi C0 (j := 3) (c0 := 4) rfl gX4 (by decide) rfl (by decide) wg372 (d_X4_lookAt_65) hgz (s_iln C0 (d_X4_lookAt_68) hgz (s_or C0 (d_X4_lookAt_69) hgz (s_pi C0 (j := 3) (c0 := 4) rfl gX4 tyX4_ok nmX4 (by decide) rfl (by decide) rfl rfl wg372 (d_X4_lookAt_70) hgz (s_rv C0 hr (d_X4_lookAt_73) ⟨by decide, by decide⟩))))))))))))))) (okn rfl))))⟩
theorem c_X4_lookAt (l : Launch) : Ctr l yX4_lookAt cX4_lookAt 4 none 12 243 0 (fun sx => (nf G_X4_lookAt)) := ctr_of (by decide) gz gz ⟨rfl, rfl⟩ (fun p e s m args below meth c D ca ad sx sy A Q as M C0 hE hr hno hF => P_X4_lookAt (L_X4_lookAt C0 hE hr hno) hF)
theorem wg479 : Cond.methodLink "WeighedHall" 229 ⟨"java/lang/Integer", "bitCount", "(I)I"⟩ ∈ GT := gt_mem 599 (by decide +kernel) rfl
theorem d_X10_lowestOf_0 : decode cX10_lowestOf 0 = .ok (.iload_n 0, 1) := by decide +kernel
theorem d_X10_lowestOf_1 : decode cX10_lowestOf 1 = .ok (.iload_n 0, 1) := by decide +kernel
theorem d_X10_lowestOf_2 : decode cX10_lowestOf 2 = .ok (.ineg, 1) := by decide +kernel
theorem d_X10_lowestOf_3 : decode cX10_lowestOf 3 = .ok (.iand, 1) := by decide +kernel
theorem d_X10_lowestOf_4 : decode cX10_lowestOf 4 = .ok (.iconst 1, 1) := by decide +kernel
theorem d_X10_lowestOf_5 : decode cX10_lowestOf 5 = .ok (.isub, 1) := by decide +kernel
theorem d_X10_lowestOf_6 : decode cX10_lowestOf 6 = .ok (.invokestatic 229, 3) := by decide +kernel
theorem d_X10_lowestOf_9 : decode cX10_lowestOf 9 = .ok (.ireturn, 1) := by decide +kernel
set_option maxRecDepth 100000 in
theorem L_X10_lowestOf {p : Program} {l : Launch} {e : Env} {s : State} {m : MethodId} {args : Array Value} {below : List Frame} {meth : Method} {c : Code} {D : va_G} {ca : Nat → ClassId} {ad sx sy : Nat → Nat} {A : Nat → Prop} {Q : QT} (C0 : CX p s m args meth c cX10_lowestOf 1 yX10_lowestOf.cls D ca ad A) (hE : EX sx sy A s s.heap) (hr : meth.sig.returnType = (some .int)) (hno : ∀ x ∈ c.exceptionTable.toList, False) : R_X10_lowestOf (JW p l e { frames := 11, cells := 0, slots := 6 * 0, locals := 220 } s m args below meth c 1 D ca ad A (vx_MQ below (Qn D ca ad A Q) (Qx D ca ad A Q) args s 0 (6 * 0) A) gz gz true) Q := s_iln C0 (d_X10_lowestOf_0) hgz (s_iln C0 (d_X10_lowestOf_1) hgz (s_neg C0 (d_X10_lowestOf_2) hgz (s_and C0 (d_X10_lowestOf_3) hgz (s_ic C0 (d_X10_lowestOf_4) hgz (s_sub C0 (d_X10_lowestOf_5) hgz (s_callS C0 hE (c_J6_bitCount_0f7a4 l) wg481 wg479 wg480 wg24 ⟨by decide, by decide⟩ (by decide +kernel) ⟨by decide, by decide⟩ ⟨by decide, by decide⟩ (d_X10_lowestOf_6) (fun x hx => (hno x hx).elim) ⟨by decide, by decide⟩ ⟨by decide, by decide⟩ (s_ri C0 hr (d_X10_lowestOf_9) ⟨by decide, by decide⟩))) (okn rfl)))))
theorem c_X10_lowestOf (l : Launch) : Ctr l yX10_lowestOf cX10_lowestOf 1 (some .int) 11 220 0 (fun sx => (nf G_X10_lowestOf)) := ctr_of (by decide) gz gz ⟨rfl, rfl⟩ (fun p e s m args below meth c D ca ad sx sy A Q as M C0 hE hr hno hF => P_X10_lowestOf (L_X10_lowestOf C0 hE hr hno) hF)
theorem wg1155 : Cond.code ⟨"WeighedHall$Hollows", "lookAt", "(II)V"⟩ prog_6_method_5_code 4 (Option.none : Option FieldType) ∈ GT := gt_mem 1275 (by decide +kernel) rfl
theorem wg1152 : Cond.methodLink "WeighedHall$Hollows" 43 ⟨"WeighedHall$Hollows", "lookAt", "(II)V"⟩ ∈ GT := gt_mem 1272 (by decide +kernel) rfl
theorem wg1154 : Cond.instanceMethod ⟨"WeighedHall$Hollows", "lookAt", "(II)V"⟩ ∈ GT := gt_mem 1274 (by decide +kernel) rfl
theorem ws77 : Cond.selects "WeighedHall$Hollows" ⟨"WeighedHall$Hollows", "lookAt", "(II)V"⟩ ⟨"WeighedHall$Hollows", "lookAt", "(II)V"⟩ ∈ GT := gt_mem 77 (by decide +kernel) rfl
theorem wg1150 : Cond.code ⟨"WeighedHall$Hollows", "weighAll", "(LWeighedHall$Plan;LWeighedHall$Ballots;)V"⟩ prog_6_method_3_code 6 (Option.none : Option FieldType) ∈ GT := gt_mem 1270 (by decide +kernel) rfl
theorem wg1147 : Cond.methodLink "WeighedHall$Hollows" 34 ⟨"WeighedHall$Hollows", "weighAll", "(LWeighedHall$Plan;LWeighedHall$Ballots;)V"⟩ ∈ GT := gt_mem 1267 (by decide +kernel) rfl
theorem wg1149 : Cond.instanceMethod ⟨"WeighedHall$Hollows", "weighAll", "(LWeighedHall$Plan;LWeighedHall$Ballots;)V"⟩ ∈ GT := gt_mem 1269 (by decide +kernel) rfl
theorem ws76 : Cond.selects "WeighedHall$Hollows" ⟨"WeighedHall$Hollows", "weighAll", "(LWeighedHall$Plan;LWeighedHall$Ballots;)V"⟩ ⟨"WeighedHall$Hollows", "weighAll", "(LWeighedHall$Plan;LWeighedHall$Ballots;)V"⟩ ∈ GT := gt_mem 76 (by decide +kernel) rfl
theorem wg1146 : Cond.code ⟨"WeighedHall$Plan", "allThings", "()I"⟩ prog_8_method_11_code 1 (Option.some .int) ∈ GT := gt_mem 1266 (by decide +kernel) rfl
theorem wn1143 : Cond.methodLinkNest "WeighedHall$Hollows" 22 ⟨"WeighedHall$Plan", "allThings", "()I"⟩ "WeighedHall" ∈ NT := nt_mem 1143 (by decide +kernel) rfl
theorem wg1145 : Cond.instanceMethod ⟨"WeighedHall$Plan", "allThings", "()I"⟩ ∈ GT := gt_mem 1265 (by decide +kernel) rfl
theorem ws75 : Cond.selects "WeighedHall$Plan" ⟨"WeighedHall$Plan", "allThings", "()I"⟩ ⟨"WeighedHall$Plan", "allThings", "()I"⟩ ∈ GT := gt_mem 75 (by decide +kernel) rfl
theorem wg478 : Cond.code ⟨"WeighedHall", "lowestOf", "(I)I"⟩ prog_1_method_41_code 1 (Option.some .int) ∈ GT := gt_mem 598 (by decide +kernel) rfl
theorem wn1161 : Cond.methodLinkNest "WeighedHall$Hollows" 50 ⟨"WeighedHall", "lowestOf", "(I)I"⟩ "WeighedHall" ∈ NT := nt_mem 1161 (by decide +kernel) rfl
theorem wg477 : Cond.static ⟨"WeighedHall", "lowestOf", "(I)I"⟩ ∈ GT := gt_mem 597 (by decide +kernel) rfl
theorem wg1165 : Cond.code ⟨"WeighedHall$Hollows", "turn", "(III)V"⟩ prog_6_method_4_code 5 (Option.none : Option FieldType) ∈ GT := gt_mem 1285 (by decide +kernel) rfl
theorem wg1162 : Cond.methodLink "WeighedHall$Hollows" 58 ⟨"WeighedHall$Hollows", "turn", "(III)V"⟩ ∈ GT := gt_mem 1282 (by decide +kernel) rfl
theorem wg1164 : Cond.instanceMethod ⟨"WeighedHall$Hollows", "turn", "(III)V"⟩ ∈ GT := gt_mem 1284 (by decide +kernel) rfl
theorem ws79 : Cond.selects "WeighedHall$Hollows" ⟨"WeighedHall$Hollows", "turn", "(III)V"⟩ ⟨"WeighedHall$Hollows", "turn", "(III)V"⟩ ∈ GT := gt_mem 79 (by decide +kernel) rfl
theorem wg366 : Cond.fieldLink "WeighedHall$Hollows" 62 "WeighedHall$Hollows" "known" "Z" ∈ GT := gt_mem 486 (by decide +kernel) rfl
theorem d_X4_find_0 : decode cX4_find 0 = .ok (.aload_n 0, 1) := by decide +kernel
theorem d_X4_find_1 : decode cX4_find 1 = .ok (.iconst 0, 1) := by decide +kernel
theorem d_X4_find_2 : decode cX4_find 2 = .ok (.putfield 18, 3) := by decide +kernel
theorem d_X4_find_5 : decode cX4_find 5 = .ok (.aload_n 0, 1) := by decide +kernel
theorem d_X4_find_6 : decode cX4_find 6 = .ok (.aload_n 1, 1) := by decide +kernel
theorem d_X4_find_7 : decode cX4_find 7 = .ok (.invokevirtual 22, 3) := by decide +kernel
theorem d_X4_find_10 : decode cX4_find 10 = .ok (.putfield 28, 3) := by decide +kernel
theorem d_X4_find_13 : decode cX4_find 13 = .ok (.aload_n 0, 1) := by decide +kernel
theorem d_X4_find_14 : decode cX4_find 14 = .ok (.iconst 0, 1) := by decide +kernel
theorem d_X4_find_15 : decode cX4_find 15 = .ok (.putfield 31, 3) := by decide +kernel
theorem d_X4_find_18 : decode cX4_find 18 = .ok (.aload_n 0, 1) := by decide +kernel
theorem d_X4_find_19 : decode cX4_find 19 = .ok (.aload_n 1, 1) := by decide +kernel
theorem d_X4_find_20 : decode cX4_find 20 = .ok (.aload_n 2, 1) := by decide +kernel
theorem d_X4_find_21 : decode cX4_find 21 = .ok (.invokevirtual 34, 3) := by decide +kernel
theorem d_X4_find_24 : decode cX4_find 24 = .ok (.iconst 0, 1) := by decide +kernel
theorem d_X4_find_25 : decode cX4_find 25 = .ok (.istore_n 3, 1) := by decide +kernel
theorem d_X4_find_26 : decode cX4_find 26 = .ok (.aload_n 0, 1) := by decide +kernel
theorem d_X4_find_27 : decode cX4_find 27 = .ok (.iload_n 3, 1) := by decide +kernel
theorem d_X4_find_28 : decode cX4_find 28 = .ok (.aload_n 2, 1) := by decide +kernel
theorem d_X4_find_29 : decode cX4_find 29 = .ok (.getfield 38, 3) := by decide +kernel
theorem d_X4_find_32 : decode cX4_find 32 = .ok (.invokevirtual 43, 3) := by decide +kernel
theorem d_X4_find_35 : decode cX4_find 35 = .ok (.iconst 1, 1) := by decide +kernel
theorem d_X4_find_36 : decode cX4_find 36 = .ok (.istore 4, 2) := by decide +kernel
theorem d_X4_find_38 : decode cX4_find 38 = .ok (.iload 4, 2) := by decide +kernel
theorem d_X4_find_40 : decode cX4_find 40 = .ok (.iconst 1, 1) := by decide +kernel
theorem d_X4_find_41 : decode cX4_find 41 = .ok (.aload_n 1, 1) := by decide +kernel
theorem d_X4_find_42 : decode cX4_find 42 = .ok (.getfield 47, 3) := by decide +kernel
theorem d_X4_find_45 : decode cX4_find 45 = .ok (.ishl, 1) := by decide +kernel
theorem d_X4_find_46 : decode cX4_find 46 = .ok (.if_icmp .ge 56, 3) := by decide +kernel
theorem d_X4_find_49 : decode cX4_find 49 = .ok (.iload 4, 2) := by decide +kernel
theorem d_X4_find_51 : decode cX4_find 51 = .ok (.invokestatic 50, 3) := by decide +kernel
theorem d_X4_find_54 : decode cX4_find 54 = .ok (.istore 5, 2) := by decide +kernel
theorem d_X4_find_56 : decode cX4_find 56 = .ok (.iload_n 3, 1) := by decide +kernel
theorem d_X4_find_57 : decode cX4_find 57 = .ok (.iconst 1, 1) := by decide +kernel
theorem d_X4_find_58 : decode cX4_find 58 = .ok (.iload 5, 2) := by decide +kernel
theorem d_X4_find_60 : decode cX4_find 60 = .ok (.ishl, 1) := by decide +kernel
theorem d_X4_find_61 : decode cX4_find 61 = .ok (.ixor, 1) := by decide +kernel
theorem d_X4_find_62 : decode cX4_find 62 = .ok (.istore_n 3, 1) := by decide +kernel
theorem d_X4_find_63 : decode cX4_find 63 = .ok (.aload_n 0, 1) := by decide +kernel
theorem d_X4_find_64 : decode cX4_find 64 = .ok (.iload 5, 2) := by decide +kernel
theorem d_X4_find_66 : decode cX4_find 66 = .ok (.iload 5, 2) := by decide +kernel
theorem d_X4_find_68 : decode cX4_find 68 = .ok (.iload_n 3, 1) := by decide +kernel
theorem d_X4_find_69 : decode cX4_find 69 = .ok (.invokestatic 54, 3) := by decide +kernel
theorem d_X4_find_72 : decode cX4_find 72 = .ok (.ifCond .eq 7, 3) := by decide +kernel
theorem d_X4_find_75 : decode cX4_find 75 = .ok (.iconst 1, 1) := by decide +kernel
theorem d_X4_find_76 : decode cX4_find 76 = .ok (.goto 4, 3) := by decide +kernel
theorem d_X4_find_79 : decode cX4_find 79 = .ok (.iconst (-1), 1) := by decide +kernel
theorem d_X4_find_80 : decode cX4_find 80 = .ok (.aload_n 2, 1) := by decide +kernel
theorem d_X4_find_81 : decode cX4_find 81 = .ok (.getfield 38, 3) := by decide +kernel
theorem d_X4_find_84 : decode cX4_find 84 = .ok (.invokevirtual 58, 3) := by decide +kernel
theorem d_X4_find_87 : decode cX4_find 87 = .ok (.aload_n 0, 1) := by decide +kernel
theorem d_X4_find_88 : decode cX4_find 88 = .ok (.iload_n 3, 1) := by decide +kernel
theorem d_X4_find_89 : decode cX4_find 89 = .ok (.aload_n 2, 1) := by decide +kernel
theorem d_X4_find_90 : decode cX4_find 90 = .ok (.getfield 38, 3) := by decide +kernel
theorem d_X4_find_93 : decode cX4_find 93 = .ok (.invokevirtual 43, 3) := by decide +kernel
theorem d_X4_find_96 : decode cX4_find 96 = .ok (.iinc 4 1, 3) := by decide +kernel
theorem d_X4_find_99 : decode cX4_find 99 = .ok (.goto (-61), 3) := by decide +kernel
theorem d_X4_find_102 : decode cX4_find 102 = .ok (.aload_n 0, 1) := by decide +kernel
theorem d_X4_find_103 : decode cX4_find 103 = .ok (.iconst 1, 1) := by decide +kernel
theorem d_X4_find_104 : decode cX4_find 104 = .ok (.putfield 62, 3) := by decide +kernel
theorem d_X4_find_107 : decode cX4_find 107 = .ok (.return_, 1) := by decide +kernel
set_option maxRecDepth 100000 in
theorem L_X4_find {p : Program} {l : Launch} {e : Env} {s : State} {m : MethodId} {args : Array Value} {below : List Frame} {meth : Method} {c : Code} {D : va_G} {ca : Nat → ClassId} {ad sx sy : Nat → Nat} {A : Nat → Prop} {Q : QT} (C0 : CX p s m args meth c cX4_find 6 yX4_find.cls D ca ad A) (hE : EX sx sy A s s.heap) (hr : meth.sig.returnType = none) (hno : ∀ x ∈ c.exceptionTable.toList, False) : R_X4_find (JW p l e { frames := 13, cells := 0, slots := 6 * 0, locals := 266 } s m args below meth c 6 D ca ad A (vx_MQ below (Qn D ca ad A Q) (Qx D ca ad A Q) args s 0 (6 * 0) A) gz gz true) Q := ⟨s_aln C0 (d_X4_find_0) hgz (s_ic C0 (d_X4_find_1) hgz (s_pi C0 (j := 1) (c0 := 4) rfl gX4 tyX4_ok nmX4 (by decide) rfl (by decide) rfl rfl wg368 (d_X4_find_2) hgz (s_aln C0 (d_X4_find_5) hgz (s_aln C0 (d_X4_find_6) hgz (s_callVN C0 hE (c_X6_allThings l) wg1146 wn1143 wg1145 ws75 wg3 ⟨by decide, by decide⟩ (by decide +kernel) (c0 := 6) rfl ⟨by decide, by decide⟩ ⟨by decide, by decide⟩ (d_X4_find_7) (fun x hx => (hno x hx).elim) ⟨by decide, by decide⟩ ⟨by decide, by decide⟩ (s_pi C0 (j := 2) (c0 := 4) rfl gX4 tyX4_ok nmX4 (by decide) rfl (by decide) rfl rfl wg370 (d_X4_find_10) hgz (s_aln C0 (d_X4_find_13) hgz (s_ic C0 (d_X4_find_14) hgz (s_pi C0 (j := 3) (c0 := 4) rfl gX4 tyX4_ok nmX4 (by decide) rfl (by decide) rfl rfl wg372 (d_X4_find_15) hgz (s_aln C0 (d_X4_find_18) hgz (s_aln C0 (d_X4_find_19) hgz (s_aln C0 (d_X4_find_20) hgz (s_callV C0 hE (c_X4_weighAll l) wg1150 wg1147 wg1149 ws76 wg11 ⟨by decide, by decide⟩ (by decide +kernel) (c0 := 4) rfl ⟨by decide, by decide⟩ ⟨by decide, by decide⟩ (d_X4_find_21) (fun x hx => (hno x hx).elim) ⟨by decide, by decide⟩ ⟨by decide, by decide⟩ (s_ic C0 (d_X4_find_24) hgz (s_isn C0 (d_X4_find_25) hgz (s_aln C0 (d_X4_find_26) hgz (s_iln C0 (d_X4_find_27) hgz (s_aln C0 (d_X4_find_28) hgz (s_giN C0 (j := 0) (c0 := 0) rfl gX0 (by decide) rfl (by decide) wn201 (d_X4_find_29) hgz (s_callV C0 hE (c_X4_lookAt l) wg1155 wg1152 wg1154 ws77 wg11 ⟨by decide, by decide⟩ (by decide +kernel) (c0 := 4) rfl ⟨by decide, by decide⟩ ⟨by decide, by decide⟩ (d_X4_find_32) (fun x hx => (hno x hx).elim) ⟨by decide, by decide⟩ ⟨by decide, by decide⟩ (s_ic C0 (d_X4_find_35) hgz (s_is C0 (d_X4_find_36) hgz (fun _ _ _ h => h)) (okn rfl)))))))) (okn rfl))))))) (okn rfl)))))))) (okn rfl)),
  s_il C0 (d_X4_find_38) hgz (s_ic C0 (d_X4_find_40) hgz (s_aln C0 (d_X4_find_41) hgz (s_giN C0 (j := 3) (c0 := 6) rfl gX6 (by decide) rfl (by decide) wn86 (d_X4_find_42) hgz (s_shl C0 (d_X4_find_45) hgz (s_cge C0 (d_X4_find_46) (by decide) hgz hgz (fun _ _ _ h => h) (s_il C0 (d_X4_find_49) hgz (s_callSN C0 hE (c_X10_lowestOf l) wg478 wn1161 wg477 wg1 ⟨by decide, by decide⟩ (by decide +kernel) ⟨by decide, by decide⟩ ⟨by decide, by decide⟩ (d_X4_find_51) (fun x hx => (hno x hx).elim) ⟨by decide, by decide⟩ ⟨by decide, by decide⟩ (s_is C0 (d_X4_find_54) hgz (s_iln C0 (d_X4_find_56) hgz (s_ic C0 (d_X4_find_57) hgz (s_il C0 (d_X4_find_58) hgz (s_shl C0 (d_X4_find_60) hgz (s_xor C0 (d_X4_find_61) hgz (s_isn C0 (d_X4_find_62) hgz (s_aln C0 (d_X4_find_63) hgz (s_il C0 (d_X4_find_64) hgz (s_il C0 (d_X4_find_66) hgz (s_iln C0 (d_X4_find_68) hgz (s_callSN C0 hE (c_X10_isIn l) wg491 wn1151 wg490 wg1 ⟨by decide, by decide⟩ (by decide +kernel) ⟨by decide, by decide⟩ ⟨by decide, by decide⟩ (d_X4_find_69) (fun x hx => (hno x hx).elim) ⟨by decide, by decide⟩ ⟨by decide, by decide⟩ (s_zeq C0 (d_X4_find_72) (by decide) hgz hgz (fun _ _ _ h => h) (s_ic C0 (d_X4_find_75) hgz (s_goto C0 (tgt := 80) (d_X4_find_76) (by decide) hgz (fun _ _ _ h => h)) (okn rfl)))))))))))) (okn rfl)))))))))) (okn rfl)),
  s_ic C0 (d_X4_find_79) hgz (fun _ _ _ h => h) (okn rfl),
  s_aln C0 (d_X4_find_80) hgz (s_giN C0 (j := 0) (c0 := 0) rfl gX0 (by decide) rfl (by decide) wn201 (d_X4_find_81) hgz (s_callV C0 hE (c_X4_turn l) wg1165 wg1162 wg1164 ws79 wg11 ⟨by decide, by decide⟩ (by decide +kernel) (c0 := 4) rfl ⟨by decide, by decide⟩ ⟨by decide, by decide⟩ (d_X4_find_84) (fun x hx => (hno x hx).elim) ⟨by decide, by decide⟩ ⟨by decide, by decide⟩ (s_aln C0 (d_X4_find_87) hgz (s_iln C0 (d_X4_find_88) hgz (s_aln C0 (d_X4_find_89) hgz (s_giN C0 (j := 0) (c0 := 0) rfl gX0 (by decide) rfl (by decide) wn201 (d_X4_find_90) hgz (s_callV C0 hE (c_X4_lookAt l) wg1155 wg1152 wg1154 ws77 wg11 ⟨by decide, by decide⟩ (by decide +kernel) (c0 := 4) rfl ⟨by decide, by decide⟩ ⟨by decide, by decide⟩ (d_X4_find_93) (fun x hx => (hno x hx).elim) ⟨by decide, by decide⟩ ⟨by decide, by decide⟩ (s_inc C0 (d_X4_find_96) hgz (s_goto C0 (tgt := 38) (d_X4_find_99) (by decide) hgz (fun _ _ _ h => h)))))))))),
  s_aln C0 (d_X4_find_102) hgz (s_ic C0 (d_X4_find_103) hgz (s_pz C0 (j := 0) (c0 := 4) rfl gX4 tyX4_ok nmX4 (by decide) rfl (by decide) rfl rfl wg366 (d_X4_find_104) hgz (s_rv C0 hr (d_X4_find_107) ⟨by decide, by decide⟩)) (okn rfl))⟩
theorem c_X4_find (l : Launch) : Ctr l yX4_find cX4_find 6 none 13 266 0 (fun sx => (nf G_X4_find)) := ctr_of (by decide) gz gz ⟨rfl, rfl⟩ (fun p e s m args below meth c D ca ad sx sy A Q as M C0 hE hr hno hF => P_X4_find (L_X4_find C0 hE hr hno) hF)
theorem wg1142 : Cond.code ⟨"WeighedHall$Hollows", "find", "(LWeighedHall$Plan;LWeighedHall$Ballots;)V"⟩ prog_6_method_2_code 6 (Option.none : Option FieldType) ∈ GT := gt_mem 1262 (by decide +kernel) rfl
theorem wn1139 : Cond.methodLinkNest "WeighedHall" 300 ⟨"WeighedHall$Hollows", "find", "(LWeighedHall$Plan;LWeighedHall$Ballots;)V"⟩ "WeighedHall" ∈ NT := nt_mem 1139 (by decide +kernel) rfl
theorem wg1141 : Cond.instanceMethod ⟨"WeighedHall$Hollows", "find", "(LWeighedHall$Plan;LWeighedHall$Ballots;)V"⟩ ∈ GT := gt_mem 1261 (by decide +kernel) rfl
theorem ws74 : Cond.selects "WeighedHall$Hollows" ⟨"WeighedHall$Hollows", "find", "(LWeighedHall$Plan;LWeighedHall$Ballots;)V"⟩ ⟨"WeighedHall$Hollows", "find", "(LWeighedHall$Plan;LWeighedHall$Ballots;)V"⟩ ∈ GT := gt_mem 74 (by decide +kernel) rfl
theorem wn369 : Cond.fieldLinkNest "WeighedHall" 303 "WeighedHall$Hollows" "sets" "I" "WeighedHall" ∈ NT := nt_mem 369 (by decide +kernel) rfl
theorem wn371 : Cond.fieldLinkNest "WeighedHall" 306 "WeighedHall$Hollows" "inAll" "I" "WeighedHall" ∈ NT := nt_mem 371 (by decide +kernel) rfl
theorem wn373 : Cond.fieldLinkNest "WeighedHall" 312 "WeighedHall$Hollows" "inAny" "I" "WeighedHall" ∈ NT := nt_mem 373 (by decide +kernel) rfl
theorem wn1166 : Cond.methodLinkNest "WeighedHall" 309 ⟨"WeighedHall$Plan", "allThings", "()I"⟩ "WeighedHall" ∈ NT := nt_mem 1166 (by decide +kernel) rfl
theorem wn375 : Cond.fieldLinkNest "WeighedHall" 315 "WeighedHall$Hollows" "fewest" "I" "WeighedHall" ∈ NT := nt_mem 375 (by decide +kernel) rfl
theorem d_X10_hollow_0 : decode cX10_hollow 0 = .ok (.aload_n 0, 1) := by decide +kernel
theorem d_X10_hollow_1 : decode cX10_hollow 1 = .ok (.iload_n 1, 1) := by decide +kernel
theorem d_X10_hollow_2 : decode cX10_hollow 2 = .ok (.ifCond .lt 12, 3) := by decide +kernel
theorem d_X10_hollow_5 : decode cX10_hollow 5 = .ok (.iload_n 1, 1) := by decide +kernel
theorem d_X10_hollow_6 : decode cX10_hollow 6 = .ok (.iconst 4, 1) := by decide +kernel
theorem d_X10_hollow_7 : decode cX10_hollow 7 = .ok (.if_icmp .gt 7, 3) := by decide +kernel
theorem d_X10_hollow_10 : decode cX10_hollow 10 = .ok (.iconst 1, 1) := by decide +kernel
theorem d_X10_hollow_11 : decode cX10_hollow 11 = .ok (.goto 4, 3) := by decide +kernel
theorem d_X10_hollow_14 : decode cX10_hollow 14 = .ok (.iconst 0, 1) := by decide +kernel
theorem d_X10_hollow_15 : decode cX10_hollow 15 = .ok (.invokevirtual 104, 3) := by decide +kernel
theorem d_X10_hollow_18 : decode cX10_hollow 18 = .ok (.aload_n 0, 1) := by decide +kernel
theorem d_X10_hollow_19 : decode cX10_hollow 19 = .ok (.getfield 92, 3) := by decide +kernel
theorem d_X10_hollow_22 : decode cX10_hollow 22 = .ok (.getfield 296, 3) := by decide +kernel
theorem d_X10_hollow_25 : decode cX10_hollow 25 = .ok (.ifCond .ne 18, 3) := by decide +kernel
theorem d_X10_hollow_28 : decode cX10_hollow 28 = .ok (.aload_n 0, 1) := by decide +kernel
theorem d_X10_hollow_29 : decode cX10_hollow 29 = .ok (.getfield 92, 3) := by decide +kernel
theorem d_X10_hollow_32 : decode cX10_hollow 32 = .ok (.aload_n 0, 1) := by decide +kernel
theorem d_X10_hollow_33 : decode cX10_hollow 33 = .ok (.getfield 19, 3) := by decide +kernel
theorem d_X10_hollow_36 : decode cX10_hollow 36 = .ok (.aload_n 0, 1) := by decide +kernel
theorem d_X10_hollow_37 : decode cX10_hollow 37 = .ok (.getfield 39, 3) := by decide +kernel
theorem d_X10_hollow_40 : decode cX10_hollow 40 = .ok (.invokevirtual 300, 3) := by decide +kernel
theorem d_X10_hollow_43 : decode cX10_hollow 43 = .ok (.iload_n 1, 1) := by decide +kernel
theorem d_X10_hollow_44 : decode cX10_hollow 44 = .ok (.tableswitch 119 0 3 #[32, 40, 62, 94], 32) := by decide +kernel
theorem d_X10_hollow_76 : decode cX10_hollow 76 = .ok (.aload_n 0, 1) := by decide +kernel
theorem d_X10_hollow_77 : decode cX10_hollow 77 = .ok (.getfield 92, 3) := by decide +kernel
theorem d_X10_hollow_80 : decode cX10_hollow 80 = .ok (.getfield 303, 3) := by decide +kernel
theorem d_X10_hollow_83 : decode cX10_hollow 83 = .ok (.ireturn, 1) := by decide +kernel
theorem d_X10_hollow_84 : decode cX10_hollow 84 = .ok (.aload_n 0, 1) := by decide +kernel
theorem d_X10_hollow_85 : decode cX10_hollow 85 = .ok (.getfield 92, 3) := by decide +kernel
theorem d_X10_hollow_88 : decode cX10_hollow 88 = .ok (.getfield 303, 3) := by decide +kernel
theorem d_X10_hollow_91 : decode cX10_hollow 91 = .ok (.ifCond .ne 7, 3) := by decide +kernel
theorem d_X10_hollow_94 : decode cX10_hollow 94 = .ok (.iconst 0, 1) := by decide +kernel
theorem d_X10_hollow_95 : decode cX10_hollow 95 = .ok (.goto 10, 3) := by decide +kernel
theorem d_X10_hollow_98 : decode cX10_hollow 98 = .ok (.aload_n 0, 1) := by decide +kernel
theorem d_X10_hollow_99 : decode cX10_hollow 99 = .ok (.getfield 92, 3) := by decide +kernel
theorem d_X10_hollow_102 : decode cX10_hollow 102 = .ok (.getfield 306, 3) := by decide +kernel
theorem d_X10_hollow_105 : decode cX10_hollow 105 = .ok (.ireturn, 1) := by decide +kernel
theorem d_X10_hollow_106 : decode cX10_hollow 106 = .ok (.aload_n 0, 1) := by decide +kernel
theorem d_X10_hollow_107 : decode cX10_hollow 107 = .ok (.getfield 92, 3) := by decide +kernel
theorem d_X10_hollow_110 : decode cX10_hollow 110 = .ok (.getfield 303, 3) := by decide +kernel
theorem d_X10_hollow_113 : decode cX10_hollow 113 = .ok (.ifCond .ne 7, 3) := by decide +kernel
theorem d_X10_hollow_116 : decode cX10_hollow 116 = .ok (.iconst 0, 1) := by decide +kernel
theorem d_X10_hollow_117 : decode cX10_hollow 117 = .ok (.goto 20, 3) := by decide +kernel
theorem d_X10_hollow_120 : decode cX10_hollow 120 = .ok (.aload_n 0, 1) := by decide +kernel
theorem d_X10_hollow_121 : decode cX10_hollow 121 = .ok (.getfield 19, 3) := by decide +kernel
theorem d_X10_hollow_124 : decode cX10_hollow 124 = .ok (.invokevirtual 309, 3) := by decide +kernel
theorem d_X10_hollow_127 : decode cX10_hollow 127 = .ok (.aload_n 0, 1) := by decide +kernel
theorem d_X10_hollow_128 : decode cX10_hollow 128 = .ok (.getfield 92, 3) := by decide +kernel
theorem d_X10_hollow_131 : decode cX10_hollow 131 = .ok (.getfield 312, 3) := by decide +kernel
theorem d_X10_hollow_134 : decode cX10_hollow 134 = .ok (.iconst (-1), 1) := by decide +kernel
theorem d_X10_hollow_135 : decode cX10_hollow 135 = .ok (.ixor, 1) := by decide +kernel
theorem d_X10_hollow_136 : decode cX10_hollow 136 = .ok (.iand, 1) := by decide +kernel
theorem d_X10_hollow_137 : decode cX10_hollow 137 = .ok (.ireturn, 1) := by decide +kernel
theorem d_X10_hollow_138 : decode cX10_hollow 138 = .ok (.aload_n 0, 1) := by decide +kernel
theorem d_X10_hollow_139 : decode cX10_hollow 139 = .ok (.getfield 92, 3) := by decide +kernel
theorem d_X10_hollow_142 : decode cX10_hollow 142 = .ok (.getfield 303, 3) := by decide +kernel
theorem d_X10_hollow_145 : decode cX10_hollow 145 = .ok (.ifCond .ne 7, 3) := by decide +kernel
theorem d_X10_hollow_148 : decode cX10_hollow 148 = .ok (.iconst (-1), 1) := by decide +kernel
theorem d_X10_hollow_149 : decode cX10_hollow 149 = .ok (.goto 13, 3) := by decide +kernel
theorem d_X10_hollow_152 : decode cX10_hollow 152 = .ok (.aload_n 0, 1) := by decide +kernel
theorem d_X10_hollow_153 : decode cX10_hollow 153 = .ok (.getfield 92, 3) := by decide +kernel
theorem d_X10_hollow_156 : decode cX10_hollow 156 = .ok (.getfield 315, 3) := by decide +kernel
theorem d_X10_hollow_159 : decode cX10_hollow 159 = .ok (.invokestatic 229, 3) := by decide +kernel
theorem d_X10_hollow_162 : decode cX10_hollow 162 = .ok (.ireturn, 1) := by decide +kernel
theorem d_X10_hollow_163 : decode cX10_hollow 163 = .ok (.aload_n 0, 1) := by decide +kernel
theorem d_X10_hollow_164 : decode cX10_hollow 164 = .ok (.getfield 92, 3) := by decide +kernel
theorem d_X10_hollow_167 : decode cX10_hollow 167 = .ok (.getfield 303, 3) := by decide +kernel
theorem d_X10_hollow_170 : decode cX10_hollow 170 = .ok (.ifCond .ne 7, 3) := by decide +kernel
theorem d_X10_hollow_173 : decode cX10_hollow 173 = .ok (.iconst (-1), 1) := by decide +kernel
theorem d_X10_hollow_174 : decode cX10_hollow 174 = .ok (.goto 10, 3) := by decide +kernel
theorem d_X10_hollow_177 : decode cX10_hollow 177 = .ok (.aload_n 0, 1) := by decide +kernel
theorem d_X10_hollow_178 : decode cX10_hollow 178 = .ok (.getfield 92, 3) := by decide +kernel
theorem d_X10_hollow_181 : decode cX10_hollow 181 = .ok (.getfield 315, 3) := by decide +kernel
theorem d_X10_hollow_184 : decode cX10_hollow 184 = .ok (.ireturn, 1) := by decide +kernel
set_option maxRecDepth 100000 in
theorem L_X10_hollow {p : Program} {l : Launch} {e : Env} {s : State} {m : MethodId} {args : Array Value} {below : List Frame} {meth : Method} {c : Code} {D : va_G} {ca : Nat → ClassId} {ad sx sy : Nat → Nat} {A : Nat → Prop} {Q : QT} (hl0 : l.stackTraces = false) (C0 : CX p s m args meth c cX10_hollow 2 yX10_hollow.cls D ca ad A) (hE : EX sx sy A s s.heap) (hr : meth.sig.returnType = (some .int)) (hno : ∀ x ∈ c.exceptionTable.toList, False) : R_X10_hollow (JW p l e { frames := 14, cells := 1, slots := 6 * 1, locals := 291 } s m args below meth c 2 D ca ad A (vx_MQ below (Qn D ca ad A Q) (Qx D ca ad A Q) args s 1 (6 * 1) A) (gl [(15, 1)]) (gl6 [(15, 1)]) true) Q := ⟨s_aln C0 (d_X10_hollow_0) (hgq rfl) (s_iln C0 (d_X10_hollow_1) (hgq rfl) (s_zlt C0 (d_X10_hollow_2) (by decide) (hgq rfl) (hgq rfl) (fun _ _ _ h => h) (s_iln C0 (d_X10_hollow_5) (hgq rfl) (s_ic C0 (d_X10_hollow_6) (hgq rfl) (s_cgt C0 (d_X10_hollow_7) (by decide) (hgq rfl) (hgq rfl) (fun _ _ _ h => h) (s_ic C0 (d_X10_hollow_10) (hgq rfl) (s_goto C0 (tgt := 15) (d_X10_hollow_11) (by decide) (hgq rfl) (fun _ _ _ h => h)) (okn rfl))) (okn rfl))))),
  s_ic C0 (d_X10_hollow_14) (hgq rfl) (fun _ _ _ h => h) (okn rfl),
  s_callV C0 hE (c_X10_needArgument l hl0) wg563 wg560 wg562 ws13 wg1 ⟨by decide, by decide⟩ (by decide +kernel) (c0 := 10) rfl ⟨by decide, by decide⟩ ⟨by decide, by decide⟩ (d_X10_hollow_15) (fun x hx => (hno x hx).elim) ⟨by decide, by decide⟩ ⟨by decide, by decide⟩ (s_aln C0 (d_X10_hollow_18) (hgq rfl) (s_gr C0 (j := 15) (c0 := 10) rfl gX10 (by decide) rfl rfl wg408 (d_X10_hollow_19) (hgq rfl) (s_giN C0 (j := 0) (c0 := 4) rfl gX4 (by decide) rfl (by decide) wn367 (d_X10_hollow_22) (hgq rfl) (s_zne C0 (d_X10_hollow_25) (by decide) (hgq rfl) (hgq rfl) (fun _ _ _ h => h) (s_aln C0 (d_X10_hollow_28) (hgq rfl) (s_gr C0 (j := 15) (c0 := 10) rfl gX10 (by decide) rfl rfl wg408 (d_X10_hollow_29) (hgq rfl) (s_aln C0 (d_X10_hollow_32) (hgq rfl) (s_gm C0 (j := 1) (c0 := 10) rfl gX10 (by decide) rfl rfl wg394 (d_X10_hollow_33) (hgq rfl) (s_aln C0 (d_X10_hollow_36) (hgq rfl) (s_gr C0 (j := 5) (c0 := 10) rfl gX10 (by decide) rfl rfl wg398 (d_X10_hollow_37) (hgq rfl) (s_callVN C0 hE (c_X4_find l) wg1142 wn1139 wg1141 ws74 wg11 ⟨by decide, by decide⟩ (by decide +kernel) (c0 := 4) rfl ⟨by decide, by decide⟩ ⟨by decide, by decide⟩ (d_X10_hollow_40) (fun x hx => (hno x hx).elim) ⟨by decide, by decide⟩ ⟨by decide, by decide⟩ (fun _ _ _ h => h)))))))))))),
  s_iln C0 (d_X10_hollow_43) (hgq rfl) (s_tab C0 (d_X10_hollow_44) (by decide) (by decide) (by decide) (by decide) (hgt rfl) (fun _ _ _ _ _ h => h)),
  s_aln C0 (d_X10_hollow_76) (hgq rfl) (s_gr C0 (j := 15) (c0 := 10) rfl gX10 (by decide) rfl rfl wg408 (d_X10_hollow_77) (hgq rfl) (s_giN C0 (j := 1) (c0 := 4) rfl gX4 (by decide) rfl (by decide) wn369 (d_X10_hollow_80) (hgq rfl) (s_ri C0 hr (d_X10_hollow_83) ⟨by decide, by decide⟩))),
  s_aln C0 (d_X10_hollow_84) (hgq rfl) (s_gr C0 (j := 15) (c0 := 10) rfl gX10 (by decide) rfl rfl wg408 (d_X10_hollow_85) (hgq rfl) (s_giN C0 (j := 1) (c0 := 4) rfl gX4 (by decide) rfl (by decide) wn369 (d_X10_hollow_88) (hgq rfl) (s_zne C0 (d_X10_hollow_91) (by decide) (hgq rfl) (hgq rfl) (fun _ _ _ h => h) (s_ic C0 (d_X10_hollow_94) (hgq rfl) (s_goto C0 (tgt := 105) (d_X10_hollow_95) (by decide) (hgq rfl) (fun _ _ _ h => h)) (okn rfl))))),
  s_aln C0 (d_X10_hollow_98) (hgq rfl) (s_gr C0 (j := 15) (c0 := 10) rfl gX10 (by decide) rfl rfl wg408 (d_X10_hollow_99) (hgq rfl) (s_giN C0 (j := 2) (c0 := 4) rfl gX4 (by decide) rfl (by decide) wn371 (d_X10_hollow_102) (hgq rfl) (fun _ _ _ h => h))),
  s_ri C0 hr (d_X10_hollow_105) ⟨by decide, by decide⟩,
  s_aln C0 (d_X10_hollow_106) (hgq rfl) (s_gr C0 (j := 15) (c0 := 10) rfl gX10 (by decide) rfl rfl wg408 (d_X10_hollow_107) (hgq rfl) (s_giN C0 (j := 1) (c0 := 4) rfl gX4 (by decide) rfl (by decide) wn369 (d_X10_hollow_110) (hgq rfl) (s_zne C0 (d_X10_hollow_113) (by decide) (hgq rfl) (hgq rfl) (fun _ _ _ h => h) (s_ic C0 (d_X10_hollow_116) (hgq rfl) (s_goto C0 (tgt := 137) (d_X10_hollow_117) (by decide) (hgq rfl) (fun _ _ _ h => h)) (okn rfl))))),
  s_aln C0 (d_X10_hollow_120) (hgq rfl) (s_gm C0 (j := 1) (c0 := 10) rfl gX10 (by decide) rfl rfl wg394 (d_X10_hollow_121) (hgq rfl) (s_callVN C0 hE (c_X6_allThings l) wg1146 wn1166 wg1145 ws75 wg3 ⟨by decide, by decide⟩ (by decide +kernel) (c0 := 6) rfl ⟨by decide, by decide⟩ ⟨by decide, by decide⟩ (d_X10_hollow_124) (fun x hx => (hno x hx).elim) ⟨by decide, by decide⟩ ⟨by decide, by decide⟩ (s_aln C0 (d_X10_hollow_127) (hgq rfl) (s_gr C0 (j := 15) (c0 := 10) rfl gX10 (by decide) rfl rfl wg408 (d_X10_hollow_128) (hgq rfl) (s_giN C0 (j := 3) (c0 := 4) rfl gX4 (by decide) rfl (by decide) wn373 (d_X10_hollow_131) (hgq rfl) (s_ic C0 (d_X10_hollow_134) (hgq rfl) (s_xor C0 (d_X10_hollow_135) (hgq rfl) (s_and C0 (d_X10_hollow_136) (hgq rfl) (fun _ _ _ h => h))) (okn rfl))))))),
  s_ri C0 hr (d_X10_hollow_137) ⟨by decide, by decide⟩,
  s_aln C0 (d_X10_hollow_138) (hgq rfl) (s_gr C0 (j := 15) (c0 := 10) rfl gX10 (by decide) rfl rfl wg408 (d_X10_hollow_139) (hgq rfl) (s_giN C0 (j := 1) (c0 := 4) rfl gX4 (by decide) rfl (by decide) wn369 (d_X10_hollow_142) (hgq rfl) (s_zne C0 (d_X10_hollow_145) (by decide) (hgq rfl) (hgq rfl) (fun _ _ _ h => h) (s_ic C0 (d_X10_hollow_148) (hgq rfl) (s_goto C0 (tgt := 162) (d_X10_hollow_149) (by decide) (hgq rfl) (fun _ _ _ h => h)) (okn rfl))))),
  s_aln C0 (d_X10_hollow_152) (hgq rfl) (s_gr C0 (j := 15) (c0 := 10) rfl gX10 (by decide) rfl rfl wg408 (d_X10_hollow_153) (hgq rfl) (s_giN C0 (j := 4) (c0 := 4) rfl gX4 (by decide) rfl (by decide) wn375 (d_X10_hollow_156) (hgq rfl) (s_callS C0 hE (c_J6_bitCount_0f7a4 l) wg481 wg479 wg480 wg24 ⟨by decide, by decide⟩ (by decide +kernel) ⟨by decide, by decide⟩ ⟨by decide, by decide⟩ (d_X10_hollow_159) (fun x hx => (hno x hx).elim) ⟨by decide, by decide⟩ ⟨by decide, by decide⟩ (fun _ _ _ h => h)))),
  s_ri C0 hr (d_X10_hollow_162) ⟨by decide, by decide⟩,
  s_aln C0 (d_X10_hollow_163) (hgq rfl) (s_gr C0 (j := 15) (c0 := 10) rfl gX10 (by decide) rfl rfl wg408 (d_X10_hollow_164) (hgq rfl) (s_giN C0 (j := 1) (c0 := 4) rfl gX4 (by decide) rfl (by decide) wn369 (d_X10_hollow_167) (hgq rfl) (s_zne C0 (d_X10_hollow_170) (by decide) (hgq rfl) (hgq rfl) (fun _ _ _ h => h) (s_ic C0 (d_X10_hollow_173) (hgq rfl) (s_goto C0 (tgt := 184) (d_X10_hollow_174) (by decide) (hgq rfl) (fun _ _ _ h => h)) (okn rfl))))),
  s_aln C0 (d_X10_hollow_177) (hgq rfl) (s_gr C0 (j := 15) (c0 := 10) rfl gX10 (by decide) rfl rfl wg408 (d_X10_hollow_178) (hgq rfl) (s_giN C0 (j := 4) (c0 := 4) rfl gX4 (by decide) rfl (by decide) wn375 (d_X10_hollow_181) (hgq rfl) (fun _ _ _ h => h))),
  s_ri C0 hr (d_X10_hollow_184) ⟨by decide, by decide⟩⟩
theorem c_X10_hollow (l : Launch) (hl0 : l.stackTraces = false) : Ctr l yX10_hollow cX10_hollow 2 (some .int) 14 291 1 (fun sx => F_X10_hollow) := ctr_of (by decide) (gl [(15, 1)]) (gl6 [(15, 1)]) ⟨rfl, rfl⟩ (fun p e s m args below meth c D ca ad sx sy A Q as M C0 hE hr hno hF => P_X10_hollow (L_X10_hollow hl0 C0 hE hr hno) hF)
theorem wg532 : Cond.methodLink "WeighedHall$Loans" 76 ⟨"java/lang/System", "arraycopy", "(Ljava/lang/Object;ILjava/lang/Object;II)V"⟩ ∈ GT := gt_mem 652 (by decide +kernel) rfl
theorem wg181 : Cond.fieldLink "WeighedHall$Loans" 21 "WeighedHall$Loans" "till" "[I" ∈ GT := gt_mem 301 (by decide +kernel) rfl
theorem wg179 : Cond.fieldLink "WeighedHall$Loans" 18 "WeighedHall$Loans" "from" "[I" ∈ GT := gt_mem 299 (by decide +kernel) rfl
theorem wg177 : Cond.fieldLink "WeighedHall$Loans" 15 "WeighedHall$Loans" "taker" "[I" ∈ GT := gt_mem 297 (by decide +kernel) rfl
theorem wg175 : Cond.fieldLink "WeighedHall$Loans" 9 "WeighedHall$Loans" "thing" "[I" ∈ GT := gt_mem 295 (by decide +kernel) rfl
theorem d_X5_copyFrom_0 : decode cX5_copyFrom 0 = .ok (.aload_n 0, 1) := by decide +kernel
theorem d_X5_copyFrom_1 : decode cX5_copyFrom 1 = .ok (.aload_n 1, 1) := by decide +kernel
theorem d_X5_copyFrom_2 : decode cX5_copyFrom 2 = .ok (.getfield 24, 3) := by decide +kernel
theorem d_X5_copyFrom_5 : decode cX5_copyFrom 5 = .ok (.putfield 24, 3) := by decide +kernel
theorem d_X5_copyFrom_8 : decode cX5_copyFrom 8 = .ok (.aload_n 1, 1) := by decide +kernel
theorem d_X5_copyFrom_9 : decode cX5_copyFrom 9 = .ok (.getfield 9, 3) := by decide +kernel
theorem d_X5_copyFrom_12 : decode cX5_copyFrom 12 = .ok (.iconst 0, 1) := by decide +kernel
theorem d_X5_copyFrom_13 : decode cX5_copyFrom 13 = .ok (.aload_n 0, 1) := by decide +kernel
theorem d_X5_copyFrom_14 : decode cX5_copyFrom 14 = .ok (.getfield 9, 3) := by decide +kernel
theorem d_X5_copyFrom_17 : decode cX5_copyFrom 17 = .ok (.iconst 0, 1) := by decide +kernel
theorem d_X5_copyFrom_18 : decode cX5_copyFrom 18 = .ok (.bipush 20, 2) := by decide +kernel
theorem d_X5_copyFrom_20 : decode cX5_copyFrom 20 = .ok (.invokestatic 76, 3) := by decide +kernel
theorem d_X5_copyFrom_23 : decode cX5_copyFrom 23 = .ok (.aload_n 1, 1) := by decide +kernel
theorem d_X5_copyFrom_24 : decode cX5_copyFrom 24 = .ok (.getfield 15, 3) := by decide +kernel
theorem d_X5_copyFrom_27 : decode cX5_copyFrom 27 = .ok (.iconst 0, 1) := by decide +kernel
theorem d_X5_copyFrom_28 : decode cX5_copyFrom 28 = .ok (.aload_n 0, 1) := by decide +kernel
theorem d_X5_copyFrom_29 : decode cX5_copyFrom 29 = .ok (.getfield 15, 3) := by decide +kernel
theorem d_X5_copyFrom_32 : decode cX5_copyFrom 32 = .ok (.iconst 0, 1) := by decide +kernel
theorem d_X5_copyFrom_33 : decode cX5_copyFrom 33 = .ok (.bipush 20, 2) := by decide +kernel
theorem d_X5_copyFrom_35 : decode cX5_copyFrom 35 = .ok (.invokestatic 76, 3) := by decide +kernel
theorem d_X5_copyFrom_38 : decode cX5_copyFrom 38 = .ok (.aload_n 1, 1) := by decide +kernel
theorem d_X5_copyFrom_39 : decode cX5_copyFrom 39 = .ok (.getfield 18, 3) := by decide +kernel
theorem d_X5_copyFrom_42 : decode cX5_copyFrom 42 = .ok (.iconst 0, 1) := by decide +kernel
theorem d_X5_copyFrom_43 : decode cX5_copyFrom 43 = .ok (.aload_n 0, 1) := by decide +kernel
theorem d_X5_copyFrom_44 : decode cX5_copyFrom 44 = .ok (.getfield 18, 3) := by decide +kernel
theorem d_X5_copyFrom_47 : decode cX5_copyFrom 47 = .ok (.iconst 0, 1) := by decide +kernel
theorem d_X5_copyFrom_48 : decode cX5_copyFrom 48 = .ok (.bipush 20, 2) := by decide +kernel
theorem d_X5_copyFrom_50 : decode cX5_copyFrom 50 = .ok (.invokestatic 76, 3) := by decide +kernel
theorem d_X5_copyFrom_53 : decode cX5_copyFrom 53 = .ok (.aload_n 1, 1) := by decide +kernel
theorem d_X5_copyFrom_54 : decode cX5_copyFrom 54 = .ok (.getfield 21, 3) := by decide +kernel
theorem d_X5_copyFrom_57 : decode cX5_copyFrom 57 = .ok (.iconst 0, 1) := by decide +kernel
theorem d_X5_copyFrom_58 : decode cX5_copyFrom 58 = .ok (.aload_n 0, 1) := by decide +kernel
theorem d_X5_copyFrom_59 : decode cX5_copyFrom 59 = .ok (.getfield 21, 3) := by decide +kernel
theorem d_X5_copyFrom_62 : decode cX5_copyFrom 62 = .ok (.iconst 0, 1) := by decide +kernel
theorem d_X5_copyFrom_63 : decode cX5_copyFrom 63 = .ok (.bipush 20, 2) := by decide +kernel
theorem d_X5_copyFrom_65 : decode cX5_copyFrom 65 = .ok (.invokestatic 76, 3) := by decide +kernel
theorem d_X5_copyFrom_68 : decode cX5_copyFrom 68 = .ok (.return_, 1) := by decide +kernel
set_option maxRecDepth 100000 in
theorem L_X5_copyFrom {p : Program} {l : Launch} {e : Env} {s : State} {m : MethodId} {args : Array Value} {below : List Frame} {meth : Method} {c : Code} {D : va_G} {ca : Nat → ClassId} {ad sx sy : Nat → Nat} {A : Nat → Prop} {Q : QT} (C0 : CX p s m args meth c cX5_copyFrom 2 yX5_copyFrom.cls D ca ad A) (hE : EX sx sy A s s.heap) (hr : meth.sig.returnType = none) (hno : ∀ x ∈ c.exceptionTable.toList, False) : R_X5_copyFrom (JW p l e { frames := 10, cells := 0, slots := 6 * 0, locals := 200 } s m args below meth c 2 D ca ad A (vx_MQ below (Qn D ca ad A Q) (Qx D ca ad A Q) args s 0 (6 * 0) A) gz gz true) Q := s_aln C0 (d_X5_copyFrom_0) hgz (s_aln C0 (d_X5_copyFrom_1) hgz (s_gi C0 (j := 0) (c0 := 5) rfl gX5 (by decide) rfl (by decide) wg172 (d_X5_copyFrom_2) hgz (s_pi C0 (j := 0) (c0 := 5) rfl gX5 tyX5_ok nmX5 (by decide) rfl (by decide) rfl rfl wg172 (d_X5_copyFrom_5) hgz (s_aln C0 (d_X5_copyFrom_8) hgz (s_gr C0 (j := 1) (c0 := 5) rfl gX5 (by decide) rfl rfl wg175 (d_X5_copyFrom_9) hgz (s_ic C0 (d_X5_copyFrom_12) hgz (s_aln C0 (d_X5_copyFrom_13) hgz (s_gr C0 (j := 1) (c0 := 5) rfl gX5 (by decide) rfl rfl wg175 (d_X5_copyFrom_14) hgz (s_ic C0 (d_X5_copyFrom_17) hgz (s_bi C0 (d_X5_copyFrom_18) hgz (s_acp C0 wg532 wg534 wg533 wg23 ⟨by decide, by decide⟩ (d_X5_copyFrom_20) hgz (s_aln C0 (d_X5_copyFrom_23) hgz (s_gr C0 (j := 2) (c0 := 5) rfl gX5 (by decide) rfl rfl wg177 (d_X5_copyFrom_24) hgz (s_ic C0 (d_X5_copyFrom_27) hgz (s_aln C0 (d_X5_copyFrom_28) hgz (s_gr C0 (j := 2) (c0 := 5) rfl gX5 (by decide) rfl rfl wg177 (d_X5_copyFrom_29) hgz (s_ic C0 (d_X5_copyFrom_32) hgz (s_bi C0 (d_X5_copyFrom_33) hgz (s_acp C0 wg532 wg534 wg533 wg23 ⟨by decide, by decide⟩ (d_X5_copyFrom_35) hgz (s_aln C0 (d_X5_copyFrom_38) hgz (s_gr C0 (j := 3) (c0 := 5) rfl gX5 (by decide) rfl rfl wg179 (d_X5_copyFrom_39) hgz (s_ic C0 (d_X5_copyFrom_42) hgz (s_aln C0 (d_X5_copyFrom_43) hgz (s_gr C0 (j := 3) (c0 := 5) rfl gX5 (by decide) rfl rfl wg179 (d_X5_copyFrom_44) hgz (s_ic C0 (d_X5_copyFrom_47) hgz (s_bi C0 (d_X5_copyFrom_48) hgz (s_acp C0 wg532 wg534 wg533 wg23 ⟨by decide, by decide⟩ (d_X5_copyFrom_50) hgz (s_aln C0 (d_X5_copyFrom_53) hgz (s_gr C0 (j := 4) (c0 := 5) rfl gX5 (by decide) rfl rfl wg181 (d_X5_copyFrom_54) hgz (s_ic C0 (d_X5_copyFrom_57) hgz (s_aln C0 (d_X5_copyFrom_58) hgz (s_gr C0 (j := 4) (c0 := 5) rfl gX5 (by decide) rfl rfl wg181 (d_X5_copyFrom_59) hgz (s_ic C0 (d_X5_copyFrom_62) hgz (s_bi C0 (d_X5_copyFrom_63) hgz (s_acp C0 wg532 wg534 wg533 wg23 ⟨by decide, by decide⟩ (d_X5_copyFrom_65) hgz (s_rv C0 hr (d_X5_copyFrom_68) ⟨by decide, by decide⟩)) (okn rfl) rfl) (okn rfl)))) (okn rfl))))) (okn rfl) rfl) (okn rfl)))) (okn rfl))))) (okn rfl) rfl) (okn rfl)))) (okn rfl))))) (okn rfl) rfl) (okn rfl)))) (okn rfl)))))))
theorem c_X5_copyFrom (l : Launch) : Ctr l yX5_copyFrom cX5_copyFrom 2 none 10 200 0 (fun sx => (nf G_X5_copyFrom)) := ctr_of (by decide) gz gz ⟨rfl, rfl⟩ (fun p e s m args below meth c D ca ad sx sy A Q as M C0 hE hr hno hF => P_X5_copyFrom (L_X5_copyFrom C0 hE hr hno) hF)
theorem wg538 : Cond.code ⟨"WeighedHall$Ballots", "copyFrom", "(LWeighedHall$Ballots;)V"⟩ prog_2_method_4_code 2 (Option.none : Option FieldType) ∈ GT := gt_mem 658 (by decide +kernel) rfl
theorem wn535 : Cond.methodLinkNest "WeighedHall" 332 ⟨"WeighedHall$Ballots", "copyFrom", "(LWeighedHall$Ballots;)V"⟩ "WeighedHall" ∈ NT := nt_mem 535 (by decide +kernel) rfl
theorem wg537 : Cond.instanceMethod ⟨"WeighedHall$Ballots", "copyFrom", "(LWeighedHall$Ballots;)V"⟩ ∈ GT := gt_mem 657 (by decide +kernel) rfl
theorem ws12 : Cond.selects "WeighedHall$Ballots" ⟨"WeighedHall$Ballots", "copyFrom", "(LWeighedHall$Ballots;)V"⟩ ⟨"WeighedHall$Ballots", "copyFrom", "(LWeighedHall$Ballots;)V"⟩ ∈ GT := gt_mem 12 (by decide +kernel) rfl
theorem wg400 : Cond.fieldLink "WeighedHall" 47 "WeighedHall" "imageBallots" "[LWeighedHall$Ballots;" ∈ GT := gt_mem 520 (by decide +kernel) rfl
theorem wg531 : Cond.code ⟨"WeighedHall$Loans", "copyFrom", "(LWeighedHall$Loans;)V"⟩ prog_7_method_5_code 2 (Option.none : Option FieldType) ∈ GT := gt_mem 651 (by decide +kernel) rfl
theorem wn528 : Cond.methodLinkNest "WeighedHall" 329 ⟨"WeighedHall$Loans", "copyFrom", "(LWeighedHall$Loans;)V"⟩ "WeighedHall" ∈ NT := nt_mem 528 (by decide +kernel) rfl
theorem wg530 : Cond.instanceMethod ⟨"WeighedHall$Loans", "copyFrom", "(LWeighedHall$Loans;)V"⟩ ∈ GT := gt_mem 650 (by decide +kernel) rfl
theorem ws11 : Cond.selects "WeighedHall$Loans" ⟨"WeighedHall$Loans", "copyFrom", "(LWeighedHall$Loans;)V"⟩ ⟨"WeighedHall$Loans", "copyFrom", "(LWeighedHall$Loans;)V"⟩ ∈ GT := gt_mem 11 (by decide +kernel) rfl
theorem wg399 : Cond.fieldLink "WeighedHall" 43 "WeighedHall" "imageLoans" "[LWeighedHall$Loans;" ∈ GT := gt_mem 519 (by decide +kernel) rfl
theorem d_X10_image_0 : decode cX10_image 0 = .ok (.aload_n 0, 1) := by decide +kernel
theorem d_X10_image_1 : decode cX10_image 1 = .ok (.getfield 126, 3) := by decide +kernel
theorem d_X10_image_4 : decode cX10_image 4 = .ok (.iconst 3, 1) := by decide +kernel
theorem d_X10_image_5 : decode cX10_image 5 = .ok (.if_icmp .lt 5, 3) := by decide +kernel
theorem d_X10_image_8 : decode cX10_image 8 = .ok (.iconst (-1), 1) := by decide +kernel
theorem d_X10_image_9 : decode cX10_image 9 = .ok (.ireturn, 1) := by decide +kernel
theorem d_X10_image_10 : decode cX10_image 10 = .ok (.aload_n 0, 1) := by decide +kernel
theorem d_X10_image_11 : decode cX10_image 11 = .ok (.getfield 43, 3) := by decide +kernel
theorem d_X10_image_14 : decode cX10_image 14 = .ok (.aload_n 0, 1) := by decide +kernel
theorem d_X10_image_15 : decode cX10_image 15 = .ok (.getfield 126, 3) := by decide +kernel
theorem d_X10_image_18 : decode cX10_image 18 = .ok (.aaload, 1) := by decide +kernel
theorem d_X10_image_19 : decode cX10_image 19 = .ok (.aload_n 0, 1) := by decide +kernel
theorem d_X10_image_20 : decode cX10_image 20 = .ok (.getfield 29, 3) := by decide +kernel
theorem d_X10_image_23 : decode cX10_image 23 = .ok (.invokevirtual 329, 3) := by decide +kernel
theorem d_X10_image_26 : decode cX10_image 26 = .ok (.aload_n 0, 1) := by decide +kernel
theorem d_X10_image_27 : decode cX10_image 27 = .ok (.getfield 47, 3) := by decide +kernel
theorem d_X10_image_30 : decode cX10_image 30 = .ok (.aload_n 0, 1) := by decide +kernel
theorem d_X10_image_31 : decode cX10_image 31 = .ok (.getfield 126, 3) := by decide +kernel
theorem d_X10_image_34 : decode cX10_image 34 = .ok (.aaload, 1) := by decide +kernel
theorem d_X10_image_35 : decode cX10_image 35 = .ok (.aload_n 0, 1) := by decide +kernel
theorem d_X10_image_36 : decode cX10_image 36 = .ok (.getfield 39, 3) := by decide +kernel
theorem d_X10_image_39 : decode cX10_image 39 = .ok (.invokevirtual 332, 3) := by decide +kernel
theorem d_X10_image_42 : decode cX10_image 42 = .ok (.aload_n 0, 1) := by decide +kernel
theorem d_X10_image_43 : decode cX10_image 43 = .ok (.dup, 1) := by decide +kernel
theorem d_X10_image_44 : decode cX10_image 44 = .ok (.getfield 126, 3) := by decide +kernel
theorem d_X10_image_47 : decode cX10_image 47 = .ok (.iconst 1, 1) := by decide +kernel
theorem d_X10_image_48 : decode cX10_image 48 = .ok (.iadd, 1) := by decide +kernel
theorem d_X10_image_49 : decode cX10_image 49 = .ok (.putfield 126, 3) := by decide +kernel
theorem d_X10_image_52 : decode cX10_image 52 = .ok (.aload_n 0, 1) := by decide +kernel
theorem d_X10_image_53 : decode cX10_image 53 = .ok (.getfield 126, 3) := by decide +kernel
theorem d_X10_image_56 : decode cX10_image 56 = .ok (.ireturn, 1) := by decide +kernel
set_option maxRecDepth 100000 in
theorem L_X10_image {p : Program} {l : Launch} {e : Env} {s : State} {m : MethodId} {args : Array Value} {below : List Frame} {meth : Method} {c : Code} {D : va_G} {ca : Nat → ClassId} {ad sx sy : Nat → Nat} {A : Nat → Prop} {Q : QT} (C0 : CX p s m args meth c cX10_image 1 yX10_image.cls D ca ad A) (hE : EX sx sy A s s.heap) (hr : meth.sig.returnType = (some .int)) (hno : ∀ x ∈ c.exceptionTable.toList, False) : R_X10_image (JW p l e { frames := 11, cells := 0, slots := 6 * 0, locals := 221 } s m args below meth c 1 D ca ad A (vx_MQ below (Qn D ca ad A Q) (Qx D ca ad A Q) args s 0 (6 * 0) A) gz gz true) Q := ⟨s_aln C0 (d_X10_image_0) hgz (s_gi C0 (j := 8) (c0 := 10) rfl gX10 (by decide) rfl (by decide) wg401 (d_X10_image_1) hgz (s_ic C0 (d_X10_image_4) hgz (s_clt C0 (d_X10_image_5) (by decide) hgz hgz (fun _ _ _ h => h) (s_ic C0 (d_X10_image_8) hgz (s_ri C0 hr (d_X10_image_9) ⟨by decide, by decide⟩) (okn rfl))) (okn rfl))),
  s_aln C0 (d_X10_image_10) hgz (s_gr C0 (j := 6) (c0 := 10) rfl gX10 (by decide) rfl rfl wg399 (d_X10_image_11) hgz (s_aln C0 (d_X10_image_14) hgz (s_gi C0 (j := 8) (c0 := 10) rfl gX10 (by decide) rfl (by decide) wg401 (d_X10_image_15) hgz (s_aa C0 (by decide) (by decide) rfl rfl (d_X10_image_18) hgz (s_aln C0 (d_X10_image_19) hgz (s_gm C0 (j := 3) (c0 := 10) rfl gX10 (by decide) rfl rfl wg396 (d_X10_image_20) hgz (s_callVN C0 hE (c_X5_copyFrom l) wg531 wn528 wg530 ws11 wg4 ⟨by decide, by decide⟩ (by decide +kernel) (c0 := 5) rfl ⟨by decide, by decide⟩ ⟨by decide, by decide⟩ (d_X10_image_23) (fun x hx => (hno x hx).elim) ⟨by decide, by decide⟩ ⟨by decide, by decide⟩ (s_aln C0 (d_X10_image_26) hgz (s_gr C0 (j := 7) (c0 := 10) rfl gX10 (by decide) rfl rfl wg400 (d_X10_image_27) hgz (s_aln C0 (d_X10_image_30) hgz (s_gi C0 (j := 8) (c0 := 10) rfl gX10 (by decide) rfl (by decide) wg401 (d_X10_image_31) hgz (s_aa C0 (by decide) (by decide) rfl rfl (d_X10_image_34) hgz (s_aln C0 (d_X10_image_35) hgz (s_gr C0 (j := 5) (c0 := 10) rfl gX10 (by decide) rfl rfl wg398 (d_X10_image_36) hgz (s_callVN C0 hE (c_X0_copyFrom l) wg538 wn535 wg537 ws12 wg5 ⟨by decide, by decide⟩ (by decide +kernel) (c0 := 0) rfl ⟨by decide, by decide⟩ ⟨by decide, by decide⟩ (d_X10_image_39) (fun x hx => (hno x hx).elim) ⟨by decide, by decide⟩ ⟨by decide, by decide⟩ (s_aln C0 (d_X10_image_42) hgz (s_dup C0 (d_X10_image_43) hgz (s_gi C0 (j := 8) (c0 := 10) rfl gX10 (by decide) rfl (by decide) wg401 (d_X10_image_44) hgz (s_ic C0 (d_X10_image_47) hgz (s_add C0 (d_X10_image_48) hgz (s_pi C0 (j := 8) (c0 := 10) rfl gX10 tyX10_ok nmX10 (by decide) rfl (by decide) rfl rfl wg401 (d_X10_image_49) hgz (s_aln C0 (d_X10_image_52) hgz (s_gi C0 (j := 8) (c0 := 10) rfl gX10 (by decide) rfl (by decide) wg401 (d_X10_image_53) hgz (s_ri C0 hr (d_X10_image_56) ⟨by decide, by decide⟩))))) (okn rfl))))))))))))))))))))⟩
theorem c_X10_image (l : Launch) : Ctr l yX10_image cX10_image 1 (some .int) 11 221 0 (fun sx => (nf G_X10_image)) := ctr_of (by decide) gz gz ⟨rfl, rfl⟩ (fun p e s m args below meth c D ca ad sx sy A Q as M C0 hE hr hno hF => P_X10_image (L_X10_image C0 hE hr hno) hF)
theorem d_X10_isLaw_0 : decode cX10_isLaw 0 = .ok (.iload_n 0, 1) := by decide +kernel
theorem d_X10_isLaw_1 : decode cX10_isLaw 1 = .ok (.ifCond .lt 12, 3) := by decide +kernel
theorem d_X10_isLaw_4 : decode cX10_isLaw 4 = .ok (.iload_n 0, 1) := by decide +kernel
theorem d_X10_isLaw_5 : decode cX10_isLaw 5 = .ok (.iconst 3, 1) := by decide +kernel
theorem d_X10_isLaw_6 : decode cX10_isLaw 6 = .ok (.if_icmp .ge 7, 3) := by decide +kernel
theorem d_X10_isLaw_9 : decode cX10_isLaw 9 = .ok (.iconst 1, 1) := by decide +kernel
theorem d_X10_isLaw_10 : decode cX10_isLaw 10 = .ok (.goto 4, 3) := by decide +kernel
theorem d_X10_isLaw_13 : decode cX10_isLaw 13 = .ok (.iconst 0, 1) := by decide +kernel
theorem d_X10_isLaw_14 : decode cX10_isLaw 14 = .ok (.ireturn, 1) := by decide +kernel
set_option maxRecDepth 100000 in
theorem L_X10_isLaw {p : Program} {l : Launch} {e : Env} {s : State} {m : MethodId} {args : Array Value} {below : List Frame} {meth : Method} {c : Code} {D : va_G} {ca : Nat → ClassId} {ad sx sy : Nat → Nat} {A : Nat → Prop} {Q : QT} (C0 : CX p s m args meth c cX10_isLaw 1 yX10_isLaw.cls D ca ad A) (hE : EX sx sy A s s.heap) (hr : meth.sig.returnType = (some .boolean)) (hno : ∀ x ∈ c.exceptionTable.toList, False) : R_X10_isLaw (JW p l e { frames := 10, cells := 0, slots := 6 * 0, locals := 200 } s m args below meth c 1 D ca ad A (vx_MQ below (Qn D ca ad A Q) (Qx D ca ad A Q) args s 0 (6 * 0) A) gz gz true) Q := ⟨s_iln C0 (d_X10_isLaw_0) hgz (s_zlt C0 (d_X10_isLaw_1) (by decide) hgz hgz (fun _ _ _ h => h) (s_iln C0 (d_X10_isLaw_4) hgz (s_ic C0 (d_X10_isLaw_5) hgz (s_cge C0 (d_X10_isLaw_6) (by decide) hgz hgz (fun _ _ _ h => h) (s_ic C0 (d_X10_isLaw_9) hgz (s_goto C0 (tgt := 14) (d_X10_isLaw_10) (by decide) hgz (fun _ _ _ h => h)) (okn rfl))) (okn rfl)))),
  s_ic C0 (d_X10_isLaw_13) hgz (fun _ _ _ h => h) (okn rfl),
  s_rz C0 hr (d_X10_isLaw_14) ⟨by decide, by decide⟩⟩
theorem c_X10_isLaw (l : Launch) : Ctr l yX10_isLaw cX10_isLaw 1 (some .boolean) 10 200 0 (fun sx => (nf G_X10_isLaw)) := ctr_of (by decide) gz gz ⟨rfl, rfl⟩ (fun p e s m args below meth c D ca ad sx sy A Q as M C0 hE hr hno hF => P_X10_isLaw (L_X10_isLaw C0 hE hr hno) hF)
theorem wg297 : Cond.fieldLink "WeighedHall$Carrying" 38 "WeighedHall$Carrying" "carriers" "I" ∈ GT := gt_mem 417 (by decide +kernel) rfl
theorem wn1029 : Cond.methodLinkNest "WeighedHall$Carrying" 78 ⟨"WeighedHall", "cut", "(II)I"⟩ "WeighedHall" ∈ NT := nt_mem 1029 (by decide +kernel) rfl
theorem wn121 : Cond.fieldLinkNest "WeighedHall$Carrying" 75 "WeighedHall$Plan" "minute" "[I" "WeighedHall" ∈ NT := nt_mem 121 (by decide +kernel) rfl
theorem wn82 : Cond.fieldLinkNest "WeighedHall$Carrying" 72 "WeighedHall$Plan" "arm" "[I" "WeighedHall" ∈ NT := nt_mem 82 (by decide +kernel) rfl
theorem wg298 : Cond.fieldLink "WeighedHall$Carrying" 15 "WeighedHall$Carrying" "most" "[I" ∈ GT := gt_mem 418 (by decide +kernel) rfl
theorem wn1024 : Cond.methodLinkNest "WeighedHall$Carrying" 64 ⟨"WeighedHall", "isIn", "(II)Z"⟩ "WeighedHall" ∈ NT := nt_mem 1024 (by decide +kernel) rfl
theorem wn125 : Cond.fieldLinkNest "WeighedHall$Carrying" 61 "WeighedHall$Plan" "pro" "[I" "WeighedHall" ∈ NT := nt_mem 125 (by decide +kernel) rfl
theorem wn75 : Cond.fieldLinkNest "WeighedHall$Carrying" 69 "WeighedHall$Plan" "persons" "I" "WeighedHall" ∈ NT := nt_mem 75 (by decide +kernel) rfl
theorem d_X2_chooseCarriers_0 : decode cX2_chooseCarriers 0 = .ok (.aload_n 0, 1) := by decide +kernel
theorem d_X2_chooseCarriers_1 : decode cX2_chooseCarriers 1 = .ok (.iconst 0, 1) := by decide +kernel
theorem d_X2_chooseCarriers_2 : decode cX2_chooseCarriers 2 = .ok (.putfield 38, 3) := by decide +kernel
theorem d_X2_chooseCarriers_5 : decode cX2_chooseCarriers 5 = .ok (.iconst 0, 1) := by decide +kernel
theorem d_X2_chooseCarriers_6 : decode cX2_chooseCarriers 6 = .ok (.istore_n 3, 1) := by decide +kernel
theorem d_X2_chooseCarriers_7 : decode cX2_chooseCarriers 7 = .ok (.iload_n 3, 1) := by decide +kernel
theorem d_X2_chooseCarriers_8 : decode cX2_chooseCarriers 8 = .ok (.aload_n 1, 1) := by decide +kernel
theorem d_X2_chooseCarriers_9 : decode cX2_chooseCarriers 9 = .ok (.getfield 69, 3) := by decide +kernel
theorem d_X2_chooseCarriers_12 : decode cX2_chooseCarriers 12 = .ok (.if_icmp .ge 70, 3) := by decide +kernel
theorem d_X2_chooseCarriers_15 : decode cX2_chooseCarriers 15 = .ok (.iload_n 3, 1) := by decide +kernel
theorem d_X2_chooseCarriers_16 : decode cX2_chooseCarriers 16 = .ok (.aload_n 1, 1) := by decide +kernel
theorem d_X2_chooseCarriers_17 : decode cX2_chooseCarriers 17 = .ok (.getfield 61, 3) := by decide +kernel
theorem d_X2_chooseCarriers_20 : decode cX2_chooseCarriers 20 = .ok (.iload_n 2, 1) := by decide +kernel
theorem d_X2_chooseCarriers_21 : decode cX2_chooseCarriers 21 = .ok (.iaload, 1) := by decide +kernel
theorem d_X2_chooseCarriers_22 : decode cX2_chooseCarriers 22 = .ok (.invokestatic 64, 3) := by decide +kernel
theorem d_X2_chooseCarriers_25 : decode cX2_chooseCarriers 25 = .ok (.ifCond .eq 51, 3) := by decide +kernel
theorem d_X2_chooseCarriers_28 : decode cX2_chooseCarriers 28 = .ok (.aload_n 0, 1) := by decide +kernel
theorem d_X2_chooseCarriers_29 : decode cX2_chooseCarriers 29 = .ok (.getfield 38, 3) := by decide +kernel
theorem d_X2_chooseCarriers_32 : decode cX2_chooseCarriers 32 = .ok (.bipush 10, 2) := by decide +kernel
theorem d_X2_chooseCarriers_34 : decode cX2_chooseCarriers 34 = .ok (.if_icmp .ge 42, 3) := by decide +kernel
theorem d_X2_chooseCarriers_37 : decode cX2_chooseCarriers 37 = .ok (.aload_n 0, 1) := by decide +kernel
theorem d_X2_chooseCarriers_38 : decode cX2_chooseCarriers 38 = .ok (.getfield 15, 3) := by decide +kernel
theorem d_X2_chooseCarriers_41 : decode cX2_chooseCarriers 41 = .ok (.aload_n 0, 1) := by decide +kernel
theorem d_X2_chooseCarriers_42 : decode cX2_chooseCarriers 42 = .ok (.getfield 38, 3) := by decide +kernel
theorem d_X2_chooseCarriers_45 : decode cX2_chooseCarriers 45 = .ok (.bipush 60, 2) := by decide +kernel
theorem d_X2_chooseCarriers_47 : decode cX2_chooseCarriers 47 = .ok (.aload_n 1, 1) := by decide +kernel
theorem d_X2_chooseCarriers_48 : decode cX2_chooseCarriers 48 = .ok (.getfield 72, 3) := by decide +kernel
theorem d_X2_chooseCarriers_51 : decode cX2_chooseCarriers 51 = .ok (.iload_n 3, 1) := by decide +kernel
theorem d_X2_chooseCarriers_52 : decode cX2_chooseCarriers 52 = .ok (.iaload, 1) := by decide +kernel
theorem d_X2_chooseCarriers_53 : decode cX2_chooseCarriers 53 = .ok (.imul, 1) := by decide +kernel
theorem d_X2_chooseCarriers_54 : decode cX2_chooseCarriers 54 = .ok (.aload_n 1, 1) := by decide +kernel
theorem d_X2_chooseCarriers_55 : decode cX2_chooseCarriers 55 = .ok (.getfield 75, 3) := by decide +kernel
theorem d_X2_chooseCarriers_58 : decode cX2_chooseCarriers 58 = .ok (.iload_n 2, 1) := by decide +kernel
theorem d_X2_chooseCarriers_59 : decode cX2_chooseCarriers 59 = .ok (.iaload, 1) := by decide +kernel
theorem d_X2_chooseCarriers_60 : decode cX2_chooseCarriers 60 = .ok (.iconst 1, 1) := by decide +kernel
theorem d_X2_chooseCarriers_61 : decode cX2_chooseCarriers 61 = .ok (.iadd, 1) := by decide +kernel
theorem d_X2_chooseCarriers_62 : decode cX2_chooseCarriers 62 = .ok (.invokestatic 78, 3) := by decide +kernel
theorem d_X2_chooseCarriers_65 : decode cX2_chooseCarriers 65 = .ok (.iastore, 1) := by decide +kernel
theorem d_X2_chooseCarriers_66 : decode cX2_chooseCarriers 66 = .ok (.aload_n 0, 1) := by decide +kernel
theorem d_X2_chooseCarriers_67 : decode cX2_chooseCarriers 67 = .ok (.dup, 1) := by decide +kernel
theorem d_X2_chooseCarriers_68 : decode cX2_chooseCarriers 68 = .ok (.getfield 38, 3) := by decide +kernel
theorem d_X2_chooseCarriers_71 : decode cX2_chooseCarriers 71 = .ok (.iconst 1, 1) := by decide +kernel
theorem d_X2_chooseCarriers_72 : decode cX2_chooseCarriers 72 = .ok (.iadd, 1) := by decide +kernel
theorem d_X2_chooseCarriers_73 : decode cX2_chooseCarriers 73 = .ok (.putfield 38, 3) := by decide +kernel
theorem d_X2_chooseCarriers_76 : decode cX2_chooseCarriers 76 = .ok (.iinc 3 1, 3) := by decide +kernel
theorem d_X2_chooseCarriers_79 : decode cX2_chooseCarriers 79 = .ok (.goto (-72), 3) := by decide +kernel
theorem d_X2_chooseCarriers_82 : decode cX2_chooseCarriers 82 = .ok (.return_, 1) := by decide +kernel
set_option maxRecDepth 100000 in
theorem L_X2_chooseCarriers {p : Program} {l : Launch} {e : Env} {s : State} {m : MethodId} {args : Array Value} {below : List Frame} {meth : Method} {c : Code} {D : va_G} {ca : Nat → ClassId} {ad sx sy : Nat → Nat} {A : Nat → Prop} {Q : QT} (C0 : CX p s m args meth c cX2_chooseCarriers 4 yX2_chooseCarriers.cls D ca ad A) (hE : EX sx sy A s s.heap) (hr : meth.sig.returnType = none) (hno : ∀ x ∈ c.exceptionTable.toList, False) : R_X2_chooseCarriers (JW p l e { frames := 11, cells := 0, slots := 6 * 0, locals := 221 } s m args below meth c 4 D ca ad A (vx_MQ below (Qn D ca ad A Q) (Qx D ca ad A Q) args s 0 (6 * 0) A) gz gz true) Q := ⟨s_aln C0 (d_X2_chooseCarriers_0) hgz (s_ic C0 (d_X2_chooseCarriers_1) hgz (s_pi C0 (j := 2) (c0 := 2) rfl gX2 tyX2_ok nmX2 (by decide) rfl (by decide) rfl rfl wg297 (d_X2_chooseCarriers_2) hgz (s_ic C0 (d_X2_chooseCarriers_5) hgz (s_isn C0 (d_X2_chooseCarriers_6) hgz (fun _ _ _ h => h)) (okn rfl))) (okn rfl)),
  s_iln C0 (d_X2_chooseCarriers_7) hgz (s_aln C0 (d_X2_chooseCarriers_8) hgz (s_giN C0 (j := 0) (c0 := 6) rfl gX6 (by decide) rfl (by decide) wn75 (d_X2_chooseCarriers_9) hgz (s_cge C0 (d_X2_chooseCarriers_12) (by decide) hgz hgz (fun _ _ _ h => h) (s_iln C0 (d_X2_chooseCarriers_15) hgz (s_aln C0 (d_X2_chooseCarriers_16) hgz (s_grN C0 (j := 12) (c0 := 6) rfl gX6 (by decide) rfl rfl wn125 (d_X2_chooseCarriers_17) hgz (s_iln C0 (d_X2_chooseCarriers_20) hgz (s_ia C0 (d_X2_chooseCarriers_21) hgz (s_callSN C0 hE (c_X10_isIn l) wg491 wn1024 wg490 wg1 ⟨by decide, by decide⟩ (by decide +kernel) ⟨by decide, by decide⟩ ⟨by decide, by decide⟩ (d_X2_chooseCarriers_22) (fun x hx => (hno x hx).elim) ⟨by decide, by decide⟩ ⟨by decide, by decide⟩ (s_zeq C0 (d_X2_chooseCarriers_25) (by decide) hgz hgz (fun _ _ _ h => h) (s_aln C0 (d_X2_chooseCarriers_28) hgz (s_gi C0 (j := 2) (c0 := 2) rfl gX2 (by decide) rfl (by decide) wg297 (d_X2_chooseCarriers_29) hgz (s_bi C0 (d_X2_chooseCarriers_32) hgz (s_cge C0 (d_X2_chooseCarriers_34) (by decide) hgz hgz (fun _ _ _ h => h) (s_aln C0 (d_X2_chooseCarriers_37) hgz (s_gr C0 (j := 3) (c0 := 2) rfl gX2 (by decide) rfl rfl wg298 (d_X2_chooseCarriers_38) hgz (s_aln C0 (d_X2_chooseCarriers_41) hgz (s_gi C0 (j := 2) (c0 := 2) rfl gX2 (by decide) rfl (by decide) wg297 (d_X2_chooseCarriers_42) hgz (s_bi C0 (d_X2_chooseCarriers_45) hgz (s_aln C0 (d_X2_chooseCarriers_47) hgz (s_grN C0 (j := 2) (c0 := 6) rfl gX6 (by decide) rfl rfl wn82 (d_X2_chooseCarriers_48) hgz (s_iln C0 (d_X2_chooseCarriers_51) hgz (s_ia C0 (d_X2_chooseCarriers_52) hgz (s_mul C0 (d_X2_chooseCarriers_53) hgz (s_aln C0 (d_X2_chooseCarriers_54) hgz (s_grN C0 (j := 11) (c0 := 6) rfl gX6 (by decide) rfl rfl wn121 (d_X2_chooseCarriers_55) hgz (s_iln C0 (d_X2_chooseCarriers_58) hgz (s_ia C0 (d_X2_chooseCarriers_59) hgz (s_ic C0 (d_X2_chooseCarriers_60) hgz (s_add C0 (d_X2_chooseCarriers_61) hgz (s_callSN C0 hE (c_X10_cut l) wg867 wn1029 wg866 wg1 ⟨by decide, by decide⟩ (by decide +kernel) ⟨by decide, by decide⟩ ⟨by decide, by decide⟩ (d_X2_chooseCarriers_62) (fun x hx => (hno x hx).elim) ⟨by decide, by decide⟩ ⟨by decide, by decide⟩ (s_iax C0 (d_X2_chooseCarriers_65) hgz (s_aln C0 (d_X2_chooseCarriers_66) hgz (s_dup C0 (d_X2_chooseCarriers_67) hgz (s_gi C0 (j := 2) (c0 := 2) rfl gX2 (by decide) rfl (by decide) wg297 (d_X2_chooseCarriers_68) hgz (s_ic C0 (d_X2_chooseCarriers_71) hgz (s_add C0 (d_X2_chooseCarriers_72) hgz (s_pi C0 (j := 2) (c0 := 2) rfl gX2 tyX2_ok nmX2 (by decide) rfl (by decide) rfl rfl wg297 (d_X2_chooseCarriers_73) hgz (fun _ _ _ h => h))) (okn rfl)))))))) (okn rfl))))))))))) (okn rfl) rfl)))))) (okn rfl) rfl))))))))))))),
  s_inc C0 (d_X2_chooseCarriers_76) hgz (s_goto C0 (tgt := 7) (d_X2_chooseCarriers_79) (by decide) hgz (fun _ _ _ h => h)),
  s_rv C0 hr (d_X2_chooseCarriers_82) ⟨by decide, by decide⟩⟩
theorem c_X2_chooseCarriers (l : Launch) : Ctr l yX2_chooseCarriers cX2_chooseCarriers 4 none 11 221 0 (fun sx => (nf G_X2_chooseCarriers)) := ctr_of (by decide) gz gz ⟨rfl, rfl⟩ (fun p e s m args below meth c D ca ad sx sy A Q as M C0 hE hr hno hF => P_X2_chooseCarriers (L_X2_chooseCarriers C0 hE hr hno) hF)
theorem wg295 : Cond.fieldLink "WeighedHall$Carrying" 42 "WeighedHall$Carrying" "things" "I" ∈ GT := gt_mem 415 (by decide +kernel) rfl
theorem wn100 : Cond.fieldLinkNest "WeighedHall$Carrying" 68 "WeighedHall$Plan" "weight" "[I" "WeighedHall" ∈ NT := nt_mem 100 (by decide +kernel) rfl
theorem wg296 : Cond.fieldLink "WeighedHall$Carrying" 11 "WeighedHall$Carrying" "weight" "[I" ∈ GT := gt_mem 416 (by decide +kernel) rfl
theorem wn94 : Cond.fieldLinkNest "WeighedHall$Carrying" 58 "WeighedHall$Plan" "owner" "[I" "WeighedHall" ∈ NT := nt_mem 94 (by decide +kernel) rfl
theorem wn107 : Cond.fieldLinkNest "WeighedHall$Carrying" 55 "WeighedHall$Plan" "door" "[I" "WeighedHall" ∈ NT := nt_mem 107 (by decide +kernel) rfl
theorem wn87 : Cond.fieldLinkNest "WeighedHall$Carrying" 52 "WeighedHall$Plan" "things" "I" "WeighedHall" ∈ NT := nt_mem 87 (by decide +kernel) rfl
theorem d_X2_chooseThings_0 : decode cX2_chooseThings 0 = .ok (.aload_n 0, 1) := by decide +kernel
theorem d_X2_chooseThings_1 : decode cX2_chooseThings 1 = .ok (.iconst 0, 1) := by decide +kernel
theorem d_X2_chooseThings_2 : decode cX2_chooseThings 2 = .ok (.putfield 42, 3) := by decide +kernel
theorem d_X2_chooseThings_5 : decode cX2_chooseThings 5 = .ok (.iconst 0, 1) := by decide +kernel
theorem d_X2_chooseThings_6 : decode cX2_chooseThings 6 = .ok (.istore_n 3, 1) := by decide +kernel
theorem d_X2_chooseThings_7 : decode cX2_chooseThings 7 = .ok (.iload_n 3, 1) := by decide +kernel
theorem d_X2_chooseThings_8 : decode cX2_chooseThings 8 = .ok (.aload_n 1, 1) := by decide +kernel
theorem d_X2_chooseThings_9 : decode cX2_chooseThings 9 = .ok (.getfield 52, 3) := by decide +kernel
theorem d_X2_chooseThings_12 : decode cX2_chooseThings 12 = .ok (.if_icmp .ge 71, 3) := by decide +kernel
theorem d_X2_chooseThings_15 : decode cX2_chooseThings 15 = .ok (.aload_n 0, 1) := by decide +kernel
theorem d_X2_chooseThings_16 : decode cX2_chooseThings 16 = .ok (.getfield 42, 3) := by decide +kernel
theorem d_X2_chooseThings_19 : decode cX2_chooseThings 19 = .ok (.bipush 10, 2) := by decide +kernel
theorem d_X2_chooseThings_21 : decode cX2_chooseThings 21 = .ok (.if_icmp .ge 62, 3) := by decide +kernel
theorem d_X2_chooseThings_24 : decode cX2_chooseThings 24 = .ok (.aload_n 1, 1) := by decide +kernel
theorem d_X2_chooseThings_25 : decode cX2_chooseThings 25 = .ok (.getfield 55, 3) := by decide +kernel
theorem d_X2_chooseThings_28 : decode cX2_chooseThings 28 = .ok (.iload_n 3, 1) := by decide +kernel
theorem d_X2_chooseThings_29 : decode cX2_chooseThings 29 = .ok (.iaload, 1) := by decide +kernel
theorem d_X2_chooseThings_30 : decode cX2_chooseThings 30 = .ok (.iconst (-1), 1) := by decide +kernel
theorem d_X2_chooseThings_31 : decode cX2_chooseThings 31 = .ok (.if_icmp .ne 46, 3) := by decide +kernel
theorem d_X2_chooseThings_34 : decode cX2_chooseThings 34 = .ok (.aload_n 1, 1) := by decide +kernel
theorem d_X2_chooseThings_35 : decode cX2_chooseThings 35 = .ok (.getfield 58, 3) := by decide +kernel
theorem d_X2_chooseThings_38 : decode cX2_chooseThings 38 = .ok (.iload_n 3, 1) := by decide +kernel
theorem d_X2_chooseThings_39 : decode cX2_chooseThings 39 = .ok (.iaload, 1) := by decide +kernel
theorem d_X2_chooseThings_40 : decode cX2_chooseThings 40 = .ok (.aload_n 1, 1) := by decide +kernel
theorem d_X2_chooseThings_41 : decode cX2_chooseThings 41 = .ok (.getfield 61, 3) := by decide +kernel
theorem d_X2_chooseThings_44 : decode cX2_chooseThings 44 = .ok (.iload_n 2, 1) := by decide +kernel
theorem d_X2_chooseThings_45 : decode cX2_chooseThings 45 = .ok (.iaload, 1) := by decide +kernel
theorem d_X2_chooseThings_46 : decode cX2_chooseThings 46 = .ok (.invokestatic 64, 3) := by decide +kernel
theorem d_X2_chooseThings_49 : decode cX2_chooseThings 49 = .ok (.ifCond .eq 28, 3) := by decide +kernel
theorem d_X2_chooseThings_52 : decode cX2_chooseThings 52 = .ok (.aload_n 0, 1) := by decide +kernel
theorem d_X2_chooseThings_53 : decode cX2_chooseThings 53 = .ok (.getfield 11, 3) := by decide +kernel
theorem d_X2_chooseThings_56 : decode cX2_chooseThings 56 = .ok (.aload_n 0, 1) := by decide +kernel
theorem d_X2_chooseThings_57 : decode cX2_chooseThings 57 = .ok (.getfield 42, 3) := by decide +kernel
theorem d_X2_chooseThings_60 : decode cX2_chooseThings 60 = .ok (.aload_n 1, 1) := by decide +kernel
theorem d_X2_chooseThings_61 : decode cX2_chooseThings 61 = .ok (.getfield 68, 3) := by decide +kernel
theorem d_X2_chooseThings_64 : decode cX2_chooseThings 64 = .ok (.iload_n 3, 1) := by decide +kernel
theorem d_X2_chooseThings_65 : decode cX2_chooseThings 65 = .ok (.iaload, 1) := by decide +kernel
theorem d_X2_chooseThings_66 : decode cX2_chooseThings 66 = .ok (.iastore, 1) := by decide +kernel
theorem d_X2_chooseThings_67 : decode cX2_chooseThings 67 = .ok (.aload_n 0, 1) := by decide +kernel
theorem d_X2_chooseThings_68 : decode cX2_chooseThings 68 = .ok (.dup, 1) := by decide +kernel
theorem d_X2_chooseThings_69 : decode cX2_chooseThings 69 = .ok (.getfield 42, 3) := by decide +kernel
theorem d_X2_chooseThings_72 : decode cX2_chooseThings 72 = .ok (.iconst 1, 1) := by decide +kernel
theorem d_X2_chooseThings_73 : decode cX2_chooseThings 73 = .ok (.iadd, 1) := by decide +kernel
theorem d_X2_chooseThings_74 : decode cX2_chooseThings 74 = .ok (.putfield 42, 3) := by decide +kernel
theorem d_X2_chooseThings_77 : decode cX2_chooseThings 77 = .ok (.iinc 3 1, 3) := by decide +kernel
theorem d_X2_chooseThings_80 : decode cX2_chooseThings 80 = .ok (.goto (-73), 3) := by decide +kernel
theorem d_X2_chooseThings_83 : decode cX2_chooseThings 83 = .ok (.return_, 1) := by decide +kernel
set_option maxRecDepth 100000 in
theorem L_X2_chooseThings {p : Program} {l : Launch} {e : Env} {s : State} {m : MethodId} {args : Array Value} {below : List Frame} {meth : Method} {c : Code} {D : va_G} {ca : Nat → ClassId} {ad sx sy : Nat → Nat} {A : Nat → Prop} {Q : QT} (C0 : CX p s m args meth c cX2_chooseThings 4 yX2_chooseThings.cls D ca ad A) (hE : EX sx sy A s s.heap) (hr : meth.sig.returnType = none) (hno : ∀ x ∈ c.exceptionTable.toList, False) : R_X2_chooseThings (JW p l e { frames := 11, cells := 0, slots := 6 * 0, locals := 221 } s m args below meth c 4 D ca ad A (vx_MQ below (Qn D ca ad A Q) (Qx D ca ad A Q) args s 0 (6 * 0) A) gz gz true) Q := ⟨s_aln C0 (d_X2_chooseThings_0) hgz (s_ic C0 (d_X2_chooseThings_1) hgz (s_pi C0 (j := 0) (c0 := 2) rfl gX2 tyX2_ok nmX2 (by decide) rfl (by decide) rfl rfl wg295 (d_X2_chooseThings_2) hgz (s_ic C0 (d_X2_chooseThings_5) hgz (s_isn C0 (d_X2_chooseThings_6) hgz (fun _ _ _ h => h)) (okn rfl))) (okn rfl)),
  s_iln C0 (d_X2_chooseThings_7) hgz (s_aln C0 (d_X2_chooseThings_8) hgz (s_giN C0 (j := 3) (c0 := 6) rfl gX6 (by decide) rfl (by decide) wn87 (d_X2_chooseThings_9) hgz (s_cge C0 (d_X2_chooseThings_12) (by decide) hgz hgz (fun _ _ _ h => h) (s_aln C0 (d_X2_chooseThings_15) hgz (s_gi C0 (j := 0) (c0 := 2) rfl gX2 (by decide) rfl (by decide) wg295 (d_X2_chooseThings_16) hgz (s_bi C0 (d_X2_chooseThings_19) hgz (s_cge C0 (d_X2_chooseThings_21) (by decide) hgz hgz (fun _ _ _ h => h) (s_aln C0 (d_X2_chooseThings_24) hgz (s_grN C0 (j := 6) (c0 := 6) rfl gX6 (by decide) rfl rfl wn107 (d_X2_chooseThings_25) hgz (s_iln C0 (d_X2_chooseThings_28) hgz (s_ia C0 (d_X2_chooseThings_29) hgz (s_ic C0 (d_X2_chooseThings_30) hgz (s_cne C0 (d_X2_chooseThings_31) (by decide) hgz hgz (fun _ _ _ h => h) (s_aln C0 (d_X2_chooseThings_34) hgz (s_grN C0 (j := 4) (c0 := 6) rfl gX6 (by decide) rfl rfl wn94 (d_X2_chooseThings_35) hgz (s_iln C0 (d_X2_chooseThings_38) hgz (s_ia C0 (d_X2_chooseThings_39) hgz (s_aln C0 (d_X2_chooseThings_40) hgz (s_grN C0 (j := 12) (c0 := 6) rfl gX6 (by decide) rfl rfl wn125 (d_X2_chooseThings_41) hgz (s_iln C0 (d_X2_chooseThings_44) hgz (s_ia C0 (d_X2_chooseThings_45) hgz (s_callSN C0 hE (c_X10_isIn l) wg491 wn1024 wg490 wg1 ⟨by decide, by decide⟩ (by decide +kernel) ⟨by decide, by decide⟩ ⟨by decide, by decide⟩ (d_X2_chooseThings_46) (fun x hx => (hno x hx).elim) ⟨by decide, by decide⟩ ⟨by decide, by decide⟩ (s_zeq C0 (d_X2_chooseThings_49) (by decide) hgz hgz (fun _ _ _ h => h) (s_aln C0 (d_X2_chooseThings_52) hgz (s_gr C0 (j := 1) (c0 := 2) rfl gX2 (by decide) rfl rfl wg296 (d_X2_chooseThings_53) hgz (s_aln C0 (d_X2_chooseThings_56) hgz (s_gi C0 (j := 0) (c0 := 2) rfl gX2 (by decide) rfl (by decide) wg295 (d_X2_chooseThings_57) hgz (s_aln C0 (d_X2_chooseThings_60) hgz (s_grN C0 (j := 5) (c0 := 6) rfl gX6 (by decide) rfl rfl wn100 (d_X2_chooseThings_61) hgz (s_iln C0 (d_X2_chooseThings_64) hgz (s_ia C0 (d_X2_chooseThings_65) hgz (s_iax C0 (d_X2_chooseThings_66) hgz (s_aln C0 (d_X2_chooseThings_67) hgz (s_dup C0 (d_X2_chooseThings_68) hgz (s_gi C0 (j := 0) (c0 := 2) rfl gX2 (by decide) rfl (by decide) wg295 (d_X2_chooseThings_69) hgz (s_ic C0 (d_X2_chooseThings_72) hgz (s_add C0 (d_X2_chooseThings_73) hgz (s_pi C0 (j := 0) (c0 := 2) rfl gX2 tyX2_ok nmX2 (by decide) rfl (by decide) rfl rfl wg295 (d_X2_chooseThings_74) hgz (fun _ _ _ h => h))) (okn rfl))))))))))))))))))))))))) (okn rfl))))))) (okn rfl) rfl)))))),
  s_inc C0 (d_X2_chooseThings_77) hgz (s_goto C0 (tgt := 7) (d_X2_chooseThings_80) (by decide) hgz (fun _ _ _ h => h)),
  s_rv C0 hr (d_X2_chooseThings_83) ⟨by decide, by decide⟩⟩
theorem c_X2_chooseThings (l : Launch) : Ctr l yX2_chooseThings cX2_chooseThings 4 none 11 221 0 (fun sx => (nf G_X2_chooseThings)) := ctr_of (by decide) gz gz ⟨rfl, rfl⟩ (fun p e s m args below meth c D ca ad sx sy A Q as M C0 hE hr hno hF => P_X2_chooseThings (L_X2_chooseThings C0 hE hr hno) hF)
theorem wg1030 : Cond.constant "WeighedHall$Carrying" 41 1000000 ∈ GT := gt_mem 1150 (by decide +kernel) rfl
theorem d_X2_needWith_0 : decode cX2_needWith 0 = .ok (.iload_n 1, 1) := by decide +kernel
theorem d_X2_needWith_1 : decode cX2_needWith 1 = .ok (.ldc 41, 2) := by decide +kernel
theorem d_X2_needWith_3 : decode cX2_needWith 3 = .ok (.if_icmp .ne 6, 3) := by decide +kernel
theorem d_X2_needWith_6 : decode cX2_needWith 6 = .ok (.ldc 41, 2) := by decide +kernel
theorem d_X2_needWith_8 : decode cX2_needWith 8 = .ok (.ireturn, 1) := by decide +kernel
theorem d_X2_needWith_9 : decode cX2_needWith 9 = .ok (.iload_n 1, 1) := by decide +kernel
theorem d_X2_needWith_10 : decode cX2_needWith 10 = .ok (.sipush 4096, 3) := by decide +kernel
theorem d_X2_needWith_13 : decode cX2_needWith 13 = .ok (.idiv, 1) := by decide +kernel
theorem d_X2_needWith_14 : decode cX2_needWith 14 = .ok (.istore_n 3, 1) := by decide +kernel
theorem d_X2_needWith_15 : decode cX2_needWith 15 = .ok (.iload_n 1, 1) := by decide +kernel
theorem d_X2_needWith_16 : decode cX2_needWith 16 = .ok (.sipush 4096, 3) := by decide +kernel
theorem d_X2_needWith_19 : decode cX2_needWith 19 = .ok (.irem, 1) := by decide +kernel
theorem d_X2_needWith_20 : decode cX2_needWith 20 = .ok (.istore 4, 2) := by decide +kernel
theorem d_X2_needWith_22 : decode cX2_needWith 22 = .ok (.iload_n 3, 1) := by decide +kernel
theorem d_X2_needWith_23 : decode cX2_needWith 23 = .ok (.istore 5, 2) := by decide +kernel
theorem d_X2_needWith_25 : decode cX2_needWith 25 = .ok (.iload 5, 2) := by decide +kernel
theorem d_X2_needWith_27 : decode cX2_needWith 27 = .ok (.aload_n 0, 1) := by decide +kernel
theorem d_X2_needWith_28 : decode cX2_needWith 28 = .ok (.getfield 38, 3) := by decide +kernel
theorem d_X2_needWith_31 : decode cX2_needWith 31 = .ok (.if_icmp .ge 38, 3) := by decide +kernel
theorem d_X2_needWith_34 : decode cX2_needWith 34 = .ok (.iload 4, 2) := by decide +kernel
theorem d_X2_needWith_36 : decode cX2_needWith 36 = .ok (.iload_n 2, 1) := by decide +kernel
theorem d_X2_needWith_37 : decode cX2_needWith 37 = .ok (.iadd, 1) := by decide +kernel
theorem d_X2_needWith_38 : decode cX2_needWith 38 = .ok (.aload_n 0, 1) := by decide +kernel
theorem d_X2_needWith_39 : decode cX2_needWith 39 = .ok (.getfield 15, 3) := by decide +kernel
theorem d_X2_needWith_42 : decode cX2_needWith 42 = .ok (.iload 5, 2) := by decide +kernel
theorem d_X2_needWith_44 : decode cX2_needWith 44 = .ok (.iaload, 1) := by decide +kernel
theorem d_X2_needWith_45 : decode cX2_needWith 45 = .ok (.if_icmp .gt 15, 3) := by decide +kernel
theorem d_X2_needWith_48 : decode cX2_needWith 48 = .ok (.iload 5, 2) := by decide +kernel
theorem d_X2_needWith_50 : decode cX2_needWith 50 = .ok (.sipush 4096, 3) := by decide +kernel
theorem d_X2_needWith_53 : decode cX2_needWith 53 = .ok (.imul, 1) := by decide +kernel
theorem d_X2_needWith_54 : decode cX2_needWith 54 = .ok (.iload 4, 2) := by decide +kernel
theorem d_X2_needWith_56 : decode cX2_needWith 56 = .ok (.iadd, 1) := by decide +kernel
theorem d_X2_needWith_57 : decode cX2_needWith 57 = .ok (.iload_n 2, 1) := by decide +kernel
theorem d_X2_needWith_58 : decode cX2_needWith 58 = .ok (.iadd, 1) := by decide +kernel
theorem d_X2_needWith_59 : decode cX2_needWith 59 = .ok (.ireturn, 1) := by decide +kernel
theorem d_X2_needWith_60 : decode cX2_needWith 60 = .ok (.iconst 0, 1) := by decide +kernel
theorem d_X2_needWith_61 : decode cX2_needWith 61 = .ok (.istore 4, 2) := by decide +kernel
theorem d_X2_needWith_63 : decode cX2_needWith 63 = .ok (.iinc 5 1, 3) := by decide +kernel
theorem d_X2_needWith_66 : decode cX2_needWith 66 = .ok (.goto (-41), 3) := by decide +kernel
theorem d_X2_needWith_69 : decode cX2_needWith 69 = .ok (.ldc 41, 2) := by decide +kernel
theorem d_X2_needWith_71 : decode cX2_needWith 71 = .ok (.ireturn, 1) := by decide +kernel
set_option maxRecDepth 100000 in
theorem L_X2_needWith {p : Program} {l : Launch} {e : Env} {s : State} {m : MethodId} {args : Array Value} {below : List Frame} {meth : Method} {c : Code} {D : va_G} {ca : Nat → ClassId} {ad sx sy : Nat → Nat} {A : Nat → Prop} {Q : QT} (C0 : CX p s m args meth c cX2_needWith 6 yX2_needWith.cls D ca ad A) (hE : EX sx sy A s s.heap) (hr : meth.sig.returnType = (some .int)) (hno : ∀ x ∈ c.exceptionTable.toList, False) : R_X2_needWith (JW p l e { frames := 10, cells := 0, slots := 6 * 0, locals := 200 } s m args below meth c 6 D ca ad A (vx_MQ below (Qn D ca ad A Q) (Qx D ca ad A Q) args s 0 (6 * 0) A) gz gz true) Q := ⟨s_iln C0 (d_X2_needWith_0) hgz (s_ldc C0 (n := 1000000) wg1030 (d_X2_needWith_1) hgz (s_cne C0 (d_X2_needWith_3) (by decide) hgz hgz (fun _ _ _ h => h) (s_ldc C0 (n := 1000000) wg1030 (d_X2_needWith_6) hgz (s_ri C0 hr (d_X2_needWith_8) ⟨by decide, by decide⟩) (okn rfl))) (okn rfl)),
  s_iln C0 (d_X2_needWith_9) hgz (s_si C0 (d_X2_needWith_10) hgz (s_div C0 (d_X2_needWith_13) hgz (s_isn C0 (d_X2_needWith_14) hgz (s_iln C0 (d_X2_needWith_15) hgz (s_si C0 (d_X2_needWith_16) hgz (s_rem C0 (d_X2_needWith_19) hgz (s_is C0 (d_X2_needWith_20) hgz (s_iln C0 (d_X2_needWith_22) hgz (s_is C0 (d_X2_needWith_23) hgz (fun _ _ _ h => h))))) (okn rfl) rfl)))) (okn rfl) rfl),
  s_il C0 (d_X2_needWith_25) hgz (s_aln C0 (d_X2_needWith_27) hgz (s_gi C0 (j := 2) (c0 := 2) rfl gX2 (by decide) rfl (by decide) wg297 (d_X2_needWith_28) hgz (s_cge C0 (d_X2_needWith_31) (by decide) hgz hgz (fun _ _ _ h => h) (s_il C0 (d_X2_needWith_34) hgz (s_iln C0 (d_X2_needWith_36) hgz (s_add C0 (d_X2_needWith_37) hgz (s_aln C0 (d_X2_needWith_38) hgz (s_gr C0 (j := 3) (c0 := 2) rfl gX2 (by decide) rfl rfl wg298 (d_X2_needWith_39) hgz (s_il C0 (d_X2_needWith_42) hgz (s_ia C0 (d_X2_needWith_44) hgz (s_cgt C0 (d_X2_needWith_45) (by decide) hgz hgz (fun _ _ _ h => h) (s_il C0 (d_X2_needWith_48) hgz (s_si C0 (d_X2_needWith_50) hgz (s_mul C0 (d_X2_needWith_53) hgz (s_il C0 (d_X2_needWith_54) hgz (s_add C0 (d_X2_needWith_56) hgz (s_iln C0 (d_X2_needWith_57) hgz (s_add C0 (d_X2_needWith_58) hgz (s_ri C0 hr (d_X2_needWith_59) ⟨by decide, by decide⟩)))))) (okn rfl) rfl))))))))))))),
  s_ic C0 (d_X2_needWith_60) hgz (s_is C0 (d_X2_needWith_61) hgz (s_inc C0 (d_X2_needWith_63) hgz (s_goto C0 (tgt := 25) (d_X2_needWith_66) (by decide) hgz (fun _ _ _ h => h)))) (okn rfl),
  s_ldc C0 (n := 1000000) wg1030 (d_X2_needWith_69) hgz (s_ri C0 hr (d_X2_needWith_71) ⟨by decide, by decide⟩) (okn rfl)⟩
theorem c_X2_needWith (l : Launch) : Ctr l yX2_needWith cX2_needWith 6 (some .int) 10 200 0 (fun sx => (nf G_X2_needWith)) := ctr_of (by decide) gz gz ⟨rfl, rfl⟩ (fun p e s m args below meth c D ca ad sx sy A Q as M C0 hE hr hno hF => P_X2_needWith (L_X2_needWith C0 hE hr hno) hF)
theorem wg1040 : Cond.methodLink "WeighedHall$Carrying" 85 ⟨"java/lang/Math", "min", "(II)I"⟩ ∈ GT := gt_mem 1160 (by decide +kernel) rfl
theorem wg1039 : Cond.code ⟨"WeighedHall$Carrying", "needWith", "(II)I"⟩ prog_4_method_6_code 6 (Option.some .int) ∈ GT := gt_mem 1159 (by decide +kernel) rfl
theorem wg8 : Cond.initialized "WeighedHall$Carrying" ∈ GT := gt_mem 128 (by decide +kernel) rfl
theorem wg1036 : Cond.methodLink "WeighedHall$Carrying" 82 ⟨"WeighedHall$Carrying", "needWith", "(II)I"⟩ ∈ GT := gt_mem 1156 (by decide +kernel) rfl
theorem wg1038 : Cond.instanceMethod ⟨"WeighedHall$Carrying", "needWith", "(II)I"⟩ ∈ GT := gt_mem 1158 (by decide +kernel) rfl
theorem ws65 : Cond.selects "WeighedHall$Carrying" ⟨"WeighedHall$Carrying", "needWith", "(II)I"⟩ ⟨"WeighedHall$Carrying", "needWith", "(II)I"⟩ ∈ GT := gt_mem 65 (by decide +kernel) rfl
theorem wg300 : Cond.fieldLink "WeighedHall$Carrying" 21 "WeighedHall$Carrying" "need" "[I" ∈ GT := gt_mem 420 (by decide +kernel) rfl
theorem d_X2_needOf_0 : decode cX2_needOf 0 = .ok (.ldc 41, 2) := by decide +kernel
theorem d_X2_needOf_2 : decode cX2_needOf 2 = .ok (.istore_n 2, 1) := by decide +kernel
theorem d_X2_needOf_3 : decode cX2_needOf 3 = .ok (.iconst 0, 1) := by decide +kernel
theorem d_X2_needOf_4 : decode cX2_needOf 4 = .ok (.istore_n 3, 1) := by decide +kernel
theorem d_X2_needOf_5 : decode cX2_needOf 5 = .ok (.iload_n 3, 1) := by decide +kernel
theorem d_X2_needOf_6 : decode cX2_needOf 6 = .ok (.aload_n 0, 1) := by decide +kernel
theorem d_X2_needOf_7 : decode cX2_needOf 7 = .ok (.getfield 42, 3) := by decide +kernel
theorem d_X2_needOf_10 : decode cX2_needOf 10 = .ok (.if_icmp .ge 42, 3) := by decide +kernel
theorem d_X2_needOf_13 : decode cX2_needOf 13 = .ok (.iload_n 3, 1) := by decide +kernel
theorem d_X2_needOf_14 : decode cX2_needOf 14 = .ok (.iload_n 1, 1) := by decide +kernel
theorem d_X2_needOf_15 : decode cX2_needOf 15 = .ok (.invokestatic 64, 3) := by decide +kernel
theorem d_X2_needOf_18 : decode cX2_needOf 18 = .ok (.ifCond .eq 28, 3) := by decide +kernel
theorem d_X2_needOf_21 : decode cX2_needOf 21 = .ok (.iload_n 2, 1) := by decide +kernel
theorem d_X2_needOf_22 : decode cX2_needOf 22 = .ok (.aload_n 0, 1) := by decide +kernel
theorem d_X2_needOf_23 : decode cX2_needOf 23 = .ok (.aload_n 0, 1) := by decide +kernel
theorem d_X2_needOf_24 : decode cX2_needOf 24 = .ok (.getfield 21, 3) := by decide +kernel
theorem d_X2_needOf_27 : decode cX2_needOf 27 = .ok (.iload_n 1, 1) := by decide +kernel
theorem d_X2_needOf_28 : decode cX2_needOf 28 = .ok (.iconst 1, 1) := by decide +kernel
theorem d_X2_needOf_29 : decode cX2_needOf 29 = .ok (.iload_n 3, 1) := by decide +kernel
theorem d_X2_needOf_30 : decode cX2_needOf 30 = .ok (.ishl, 1) := by decide +kernel
theorem d_X2_needOf_31 : decode cX2_needOf 31 = .ok (.ixor, 1) := by decide +kernel
theorem d_X2_needOf_32 : decode cX2_needOf 32 = .ok (.iaload, 1) := by decide +kernel
theorem d_X2_needOf_33 : decode cX2_needOf 33 = .ok (.aload_n 0, 1) := by decide +kernel
theorem d_X2_needOf_34 : decode cX2_needOf 34 = .ok (.getfield 11, 3) := by decide +kernel
theorem d_X2_needOf_37 : decode cX2_needOf 37 = .ok (.iload_n 3, 1) := by decide +kernel
theorem d_X2_needOf_38 : decode cX2_needOf 38 = .ok (.iaload, 1) := by decide +kernel
theorem d_X2_needOf_39 : decode cX2_needOf 39 = .ok (.invokevirtual 82, 3) := by decide +kernel
theorem d_X2_needOf_42 : decode cX2_needOf 42 = .ok (.invokestatic 85, 3) := by decide +kernel
theorem d_X2_needOf_45 : decode cX2_needOf 45 = .ok (.istore_n 2, 1) := by decide +kernel
theorem d_X2_needOf_46 : decode cX2_needOf 46 = .ok (.iinc 3 1, 3) := by decide +kernel
theorem d_X2_needOf_49 : decode cX2_needOf 49 = .ok (.goto (-44), 3) := by decide +kernel
theorem d_X2_needOf_52 : decode cX2_needOf 52 = .ok (.iload_n 2, 1) := by decide +kernel
theorem d_X2_needOf_53 : decode cX2_needOf 53 = .ok (.ireturn, 1) := by decide +kernel
set_option maxRecDepth 100000 in
theorem L_X2_needOf {p : Program} {l : Launch} {e : Env} {s : State} {m : MethodId} {args : Array Value} {below : List Frame} {meth : Method} {c : Code} {D : va_G} {ca : Nat → ClassId} {ad sx sy : Nat → Nat} {A : Nat → Prop} {Q : QT} (C0 : CX p s m args meth c cX2_needOf 4 yX2_needOf.cls D ca ad A) (hE : EX sx sy A s s.heap) (hr : meth.sig.returnType = (some .int)) (hno : ∀ x ∈ c.exceptionTable.toList, False) : R_X2_needOf (JW p l e { frames := 11, cells := 0, slots := 6 * 0, locals := 225 } s m args below meth c 4 D ca ad A (vx_MQ below (Qn D ca ad A Q) (Qx D ca ad A Q) args s 0 (6 * 0) A) gz gz true) Q := ⟨s_ldc C0 (n := 1000000) wg1030 (d_X2_needOf_0) hgz (s_isn C0 (d_X2_needOf_2) hgz (s_ic C0 (d_X2_needOf_3) hgz (s_isn C0 (d_X2_needOf_4) hgz (fun _ _ _ h => h)) (okn rfl))) (okn rfl),
  s_iln C0 (d_X2_needOf_5) hgz (s_aln C0 (d_X2_needOf_6) hgz (s_gi C0 (j := 0) (c0 := 2) rfl gX2 (by decide) rfl (by decide) wg295 (d_X2_needOf_7) hgz (s_cge C0 (d_X2_needOf_10) (by decide) hgz hgz (fun _ _ _ h => h) (s_iln C0 (d_X2_needOf_13) hgz (s_iln C0 (d_X2_needOf_14) hgz (s_callSN C0 hE (c_X10_isIn l) wg491 wn1024 wg490 wg1 ⟨by decide, by decide⟩ (by decide +kernel) ⟨by decide, by decide⟩ ⟨by decide, by decide⟩ (d_X2_needOf_15) (fun x hx => (hno x hx).elim) ⟨by decide, by decide⟩ ⟨by decide, by decide⟩ (s_zeq C0 (d_X2_needOf_18) (by decide) hgz hgz (fun _ _ _ h => h) (s_iln C0 (d_X2_needOf_21) hgz (s_aln C0 (d_X2_needOf_22) hgz (s_aln C0 (d_X2_needOf_23) hgz (s_gr C0 (j := 5) (c0 := 2) rfl gX2 (by decide) rfl rfl wg300 (d_X2_needOf_24) hgz (s_iln C0 (d_X2_needOf_27) hgz (s_ic C0 (d_X2_needOf_28) hgz (s_iln C0 (d_X2_needOf_29) hgz (s_shl C0 (d_X2_needOf_30) hgz (s_xor C0 (d_X2_needOf_31) hgz (s_ia C0 (d_X2_needOf_32) hgz (s_aln C0 (d_X2_needOf_33) hgz (s_gr C0 (j := 1) (c0 := 2) rfl gX2 (by decide) rfl rfl wg296 (d_X2_needOf_34) hgz (s_iln C0 (d_X2_needOf_37) hgz (s_ia C0 (d_X2_needOf_38) hgz (s_callV C0 hE (c_X2_needWith l) wg1039 wg1036 wg1038 ws65 wg8 ⟨by decide, by decide⟩ (by decide +kernel) (c0 := 2) rfl ⟨by decide, by decide⟩ ⟨by decide, by decide⟩ (d_X2_needOf_39) (fun x hx => (hno x hx).elim) ⟨by decide, by decide⟩ ⟨by decide, by decide⟩ (s_callS C0 hE (c_J9_min_7cf53 l) wg636 wg1040 wg635 wg17 ⟨by decide, by decide⟩ (by decide +kernel) ⟨by decide, by decide⟩ ⟨by decide, by decide⟩ (d_X2_needOf_42) (fun x hx => (hno x hx).elim) ⟨by decide, by decide⟩ ⟨by decide, by decide⟩ (s_isn C0 (d_X2_needOf_45) hgz (fun _ _ _ h => h)))))))))))) (okn rfl)))))))))))))),
  s_inc C0 (d_X2_needOf_46) hgz (s_goto C0 (tgt := 5) (d_X2_needOf_49) (by decide) hgz (fun _ _ _ h => h)),
  s_iln C0 (d_X2_needOf_52) hgz (s_ri C0 hr (d_X2_needOf_53) ⟨by decide, by decide⟩)⟩
theorem c_X2_needOf (l : Launch) : Ctr l yX2_needOf cX2_needOf 4 (some .int) 11 225 0 (fun sx => (nf G_X2_needOf)) := ctr_of (by decide) gz gz ⟨rfl, rfl⟩ (fun p e s m args below meth c D ca ad sx sy A Q as M C0 hE hr hno hF => P_X2_needOf (L_X2_needOf C0 hE hr hno) hF)
theorem wg299 : Cond.fieldLink "WeighedHall$Carrying" 18 "WeighedHall$Carrying" "pounds" "[I" ∈ GT := gt_mem 419 (by decide +kernel) rfl
theorem wg303 : Cond.fieldLink "WeighedHall$Carrying" 35 "WeighedHall$Carrying" "leastSet" "I" ∈ GT := gt_mem 423 (by decide +kernel) rfl
theorem wg301 : Cond.fieldLink "WeighedHall$Carrying" 31 "WeighedHall$Carrying" "leastPounds" "I" ∈ GT := gt_mem 421 (by decide +kernel) rfl
theorem wg1028 : Cond.code ⟨"WeighedHall$Carrying", "chooseCarriers", "(LWeighedHall$Plan;I)V"⟩ prog_4_method_4_code 4 (Option.none : Option FieldType) ∈ GT := gt_mem 1148 (by decide +kernel) rfl
theorem wg1025 : Cond.methodLink "WeighedHall$Carrying" 28 ⟨"WeighedHall$Carrying", "chooseCarriers", "(LWeighedHall$Plan;I)V"⟩ ∈ GT := gt_mem 1145 (by decide +kernel) rfl
theorem wg1027 : Cond.instanceMethod ⟨"WeighedHall$Carrying", "chooseCarriers", "(LWeighedHall$Plan;I)V"⟩ ∈ GT := gt_mem 1147 (by decide +kernel) rfl
theorem ws63 : Cond.selects "WeighedHall$Carrying" ⟨"WeighedHall$Carrying", "chooseCarriers", "(LWeighedHall$Plan;I)V"⟩ ⟨"WeighedHall$Carrying", "chooseCarriers", "(LWeighedHall$Plan;I)V"⟩ ∈ GT := gt_mem 63 (by decide +kernel) rfl
theorem wg1023 : Cond.code ⟨"WeighedHall$Carrying", "chooseThings", "(LWeighedHall$Plan;I)V"⟩ prog_4_method_3_code 4 (Option.none : Option FieldType) ∈ GT := gt_mem 1143 (by decide +kernel) rfl
theorem wg1020 : Cond.methodLink "WeighedHall$Carrying" 24 ⟨"WeighedHall$Carrying", "chooseThings", "(LWeighedHall$Plan;I)V"⟩ ∈ GT := gt_mem 1140 (by decide +kernel) rfl
theorem wg1022 : Cond.instanceMethod ⟨"WeighedHall$Carrying", "chooseThings", "(LWeighedHall$Plan;I)V"⟩ ∈ GT := gt_mem 1142 (by decide +kernel) rfl
theorem ws62 : Cond.selects "WeighedHall$Carrying" ⟨"WeighedHall$Carrying", "chooseThings", "(LWeighedHall$Plan;I)V"⟩ ⟨"WeighedHall$Carrying", "chooseThings", "(LWeighedHall$Plan;I)V"⟩ ∈ GT := gt_mem 62 (by decide +kernel) rfl
theorem wg1035 : Cond.code ⟨"WeighedHall$Carrying", "needOf", "(I)I"⟩ prog_4_method_5_code 4 (Option.some .int) ∈ GT := gt_mem 1155 (by decide +kernel) rfl
theorem wg1032 : Cond.methodLink "WeighedHall$Carrying" 49 ⟨"WeighedHall$Carrying", "needOf", "(I)I"⟩ ∈ GT := gt_mem 1152 (by decide +kernel) rfl
theorem wg1034 : Cond.instanceMethod ⟨"WeighedHall$Carrying", "needOf", "(I)I"⟩ ∈ GT := gt_mem 1154 (by decide +kernel) rfl
theorem ws64 : Cond.selects "WeighedHall$Carrying" ⟨"WeighedHall$Carrying", "needOf", "(I)I"⟩ ⟨"WeighedHall$Carrying", "needOf", "(I)I"⟩ ∈ GT := gt_mem 64 (by decide +kernel) rfl
theorem wn1031 : Cond.methodLinkNest "WeighedHall$Carrying" 45 ⟨"WeighedHall", "lowestOf", "(I)I"⟩ "WeighedHall" ∈ NT := nt_mem 1031 (by decide +kernel) rfl
theorem d_X2_find_0 : decode cX2_find 0 = .ok (.aload_n 0, 1) := by decide +kernel
theorem d_X2_find_1 : decode cX2_find 1 = .ok (.aload_n 1, 1) := by decide +kernel
theorem d_X2_find_2 : decode cX2_find 2 = .ok (.iload_n 2, 1) := by decide +kernel
theorem d_X2_find_3 : decode cX2_find 3 = .ok (.invokevirtual 24, 3) := by decide +kernel
theorem d_X2_find_6 : decode cX2_find 6 = .ok (.aload_n 0, 1) := by decide +kernel
theorem d_X2_find_7 : decode cX2_find 7 = .ok (.aload_n 1, 1) := by decide +kernel
theorem d_X2_find_8 : decode cX2_find 8 = .ok (.iload_n 2, 1) := by decide +kernel
theorem d_X2_find_9 : decode cX2_find 9 = .ok (.invokevirtual 28, 3) := by decide +kernel
theorem d_X2_find_12 : decode cX2_find 12 = .ok (.aload_n 0, 1) := by decide +kernel
theorem d_X2_find_13 : decode cX2_find 13 = .ok (.iconst (-1), 1) := by decide +kernel
theorem d_X2_find_14 : decode cX2_find 14 = .ok (.putfield 31, 3) := by decide +kernel
theorem d_X2_find_17 : decode cX2_find 17 = .ok (.aload_n 0, 1) := by decide +kernel
theorem d_X2_find_18 : decode cX2_find 18 = .ok (.iconst (-1), 1) := by decide +kernel
theorem d_X2_find_19 : decode cX2_find 19 = .ok (.putfield 35, 3) := by decide +kernel
theorem d_X2_find_22 : decode cX2_find 22 = .ok (.aload_n 0, 1) := by decide +kernel
theorem d_X2_find_23 : decode cX2_find 23 = .ok (.getfield 18, 3) := by decide +kernel
theorem d_X2_find_26 : decode cX2_find 26 = .ok (.iconst 0, 1) := by decide +kernel
theorem d_X2_find_27 : decode cX2_find 27 = .ok (.iconst 0, 1) := by decide +kernel
theorem d_X2_find_28 : decode cX2_find 28 = .ok (.iastore, 1) := by decide +kernel
theorem d_X2_find_29 : decode cX2_find 29 = .ok (.aload_n 0, 1) := by decide +kernel
theorem d_X2_find_30 : decode cX2_find 30 = .ok (.getfield 21, 3) := by decide +kernel
theorem d_X2_find_33 : decode cX2_find 33 = .ok (.iconst 0, 1) := by decide +kernel
theorem d_X2_find_34 : decode cX2_find 34 = .ok (.aload_n 0, 1) := by decide +kernel
theorem d_X2_find_35 : decode cX2_find 35 = .ok (.getfield 38, 3) := by decide +kernel
theorem d_X2_find_38 : decode cX2_find 38 = .ok (.ifCond .le 7, 3) := by decide +kernel
theorem d_X2_find_41 : decode cX2_find 41 = .ok (.iconst 0, 1) := by decide +kernel
theorem d_X2_find_42 : decode cX2_find 42 = .ok (.goto 5, 3) := by decide +kernel
theorem d_X2_find_45 : decode cX2_find 45 = .ok (.ldc 41, 2) := by decide +kernel
theorem d_X2_find_47 : decode cX2_find 47 = .ok (.iastore, 1) := by decide +kernel
theorem d_X2_find_48 : decode cX2_find 48 = .ok (.iconst 1, 1) := by decide +kernel
theorem d_X2_find_49 : decode cX2_find 49 = .ok (.istore 4, 2) := by decide +kernel
theorem d_X2_find_51 : decode cX2_find 51 = .ok (.iload 4, 2) := by decide +kernel
theorem d_X2_find_53 : decode cX2_find 53 = .ok (.iconst 1, 1) := by decide +kernel
theorem d_X2_find_54 : decode cX2_find 54 = .ok (.aload_n 0, 1) := by decide +kernel
theorem d_X2_find_55 : decode cX2_find 55 = .ok (.getfield 42, 3) := by decide +kernel
theorem d_X2_find_58 : decode cX2_find 58 = .ok (.ishl, 1) := by decide +kernel
theorem d_X2_find_59 : decode cX2_find 59 = .ok (.if_icmp .ge 126, 3) := by decide +kernel
theorem d_X2_find_62 : decode cX2_find 62 = .ok (.aload_n 0, 1) := by decide +kernel
theorem d_X2_find_63 : decode cX2_find 63 = .ok (.getfield 18, 3) := by decide +kernel
theorem d_X2_find_66 : decode cX2_find 66 = .ok (.iload 4, 2) := by decide +kernel
theorem d_X2_find_68 : decode cX2_find 68 = .ok (.aload_n 0, 1) := by decide +kernel
theorem d_X2_find_69 : decode cX2_find 69 = .ok (.getfield 18, 3) := by decide +kernel
theorem d_X2_find_72 : decode cX2_find 72 = .ok (.iload 4, 2) := by decide +kernel
theorem d_X2_find_74 : decode cX2_find 74 = .ok (.iload 4, 2) := by decide +kernel
theorem d_X2_find_76 : decode cX2_find 76 = .ok (.iconst 1, 1) := by decide +kernel
theorem d_X2_find_77 : decode cX2_find 77 = .ok (.isub, 1) := by decide +kernel
theorem d_X2_find_78 : decode cX2_find 78 = .ok (.iand, 1) := by decide +kernel
theorem d_X2_find_79 : decode cX2_find 79 = .ok (.iaload, 1) := by decide +kernel
theorem d_X2_find_80 : decode cX2_find 80 = .ok (.aload_n 0, 1) := by decide +kernel
theorem d_X2_find_81 : decode cX2_find 81 = .ok (.getfield 11, 3) := by decide +kernel
theorem d_X2_find_84 : decode cX2_find 84 = .ok (.iload 4, 2) := by decide +kernel
theorem d_X2_find_86 : decode cX2_find 86 = .ok (.invokestatic 45, 3) := by decide +kernel
theorem d_X2_find_89 : decode cX2_find 89 = .ok (.iaload, 1) := by decide +kernel
theorem d_X2_find_90 : decode cX2_find 90 = .ok (.iadd, 1) := by decide +kernel
theorem d_X2_find_91 : decode cX2_find 91 = .ok (.iastore, 1) := by decide +kernel
theorem d_X2_find_92 : decode cX2_find 92 = .ok (.aload_n 0, 1) := by decide +kernel
theorem d_X2_find_93 : decode cX2_find 93 = .ok (.getfield 21, 3) := by decide +kernel
theorem d_X2_find_96 : decode cX2_find 96 = .ok (.iload 4, 2) := by decide +kernel
theorem d_X2_find_98 : decode cX2_find 98 = .ok (.aload_n 0, 1) := by decide +kernel
theorem d_X2_find_99 : decode cX2_find 99 = .ok (.iload 4, 2) := by decide +kernel
theorem d_X2_find_101 : decode cX2_find 101 = .ok (.invokevirtual 49, 3) := by decide +kernel
theorem d_X2_find_104 : decode cX2_find 104 = .ok (.iastore, 1) := by decide +kernel
theorem d_X2_find_105 : decode cX2_find 105 = .ok (.aload_n 0, 1) := by decide +kernel
theorem d_X2_find_106 : decode cX2_find 106 = .ok (.getfield 21, 3) := by decide +kernel
theorem d_X2_find_109 : decode cX2_find 109 = .ok (.iload 4, 2) := by decide +kernel
theorem d_X2_find_111 : decode cX2_find 111 = .ok (.iaload, 1) := by decide +kernel
theorem d_X2_find_112 : decode cX2_find 112 = .ok (.ldc 41, 2) := by decide +kernel
theorem d_X2_find_114 : decode cX2_find 114 = .ok (.if_icmp .eq 18, 3) := by decide +kernel
theorem d_X2_find_117 : decode cX2_find 117 = .ok (.aload_n 0, 1) := by decide +kernel
theorem d_X2_find_118 : decode cX2_find 118 = .ok (.getfield 18, 3) := by decide +kernel
theorem d_X2_find_121 : decode cX2_find 121 = .ok (.iload 4, 2) := by decide +kernel
theorem d_X2_find_123 : decode cX2_find 123 = .ok (.iaload, 1) := by decide +kernel
theorem d_X2_find_124 : decode cX2_find 124 = .ok (.iload_n 3, 1) := by decide +kernel
theorem d_X2_find_125 : decode cX2_find 125 = .ok (.if_icmp .le 7, 3) := by decide +kernel
theorem d_X2_find_128 : decode cX2_find 128 = .ok (.iconst 1, 1) := by decide +kernel
theorem d_X2_find_129 : decode cX2_find 129 = .ok (.goto 4, 3) := by decide +kernel
theorem d_X2_find_132 : decode cX2_find 132 = .ok (.iconst 0, 1) := by decide +kernel
theorem d_X2_find_133 : decode cX2_find 133 = .ok (.istore 5, 2) := by decide +kernel
theorem d_X2_find_135 : decode cX2_find 135 = .ok (.iload 5, 2) := by decide +kernel
theorem d_X2_find_137 : decode cX2_find 137 = .ok (.ifCond .eq 42, 3) := by decide +kernel
theorem d_X2_find_140 : decode cX2_find 140 = .ok (.aload_n 0, 1) := by decide +kernel
theorem d_X2_find_141 : decode cX2_find 141 = .ok (.getfield 31, 3) := by decide +kernel
theorem d_X2_find_144 : decode cX2_find 144 = .ok (.iconst (-1), 1) := by decide +kernel
theorem d_X2_find_145 : decode cX2_find 145 = .ok (.if_icmp .eq 17, 3) := by decide +kernel
theorem d_X2_find_148 : decode cX2_find 148 = .ok (.aload_n 0, 1) := by decide +kernel
theorem d_X2_find_149 : decode cX2_find 149 = .ok (.getfield 18, 3) := by decide +kernel
theorem d_X2_find_152 : decode cX2_find 152 = .ok (.iload 4, 2) := by decide +kernel
theorem d_X2_find_154 : decode cX2_find 154 = .ok (.iaload, 1) := by decide +kernel
theorem d_X2_find_155 : decode cX2_find 155 = .ok (.aload_n 0, 1) := by decide +kernel
theorem d_X2_find_156 : decode cX2_find 156 = .ok (.getfield 31, 3) := by decide +kernel
theorem d_X2_find_159 : decode cX2_find 159 = .ok (.if_icmp .ge 20, 3) := by decide +kernel
theorem d_X2_find_162 : decode cX2_find 162 = .ok (.aload_n 0, 1) := by decide +kernel
theorem d_X2_find_163 : decode cX2_find 163 = .ok (.aload_n 0, 1) := by decide +kernel
theorem d_X2_find_164 : decode cX2_find 164 = .ok (.getfield 18, 3) := by decide +kernel
theorem d_X2_find_167 : decode cX2_find 167 = .ok (.iload 4, 2) := by decide +kernel
theorem d_X2_find_169 : decode cX2_find 169 = .ok (.iaload, 1) := by decide +kernel
theorem d_X2_find_170 : decode cX2_find 170 = .ok (.putfield 31, 3) := by decide +kernel
theorem d_X2_find_173 : decode cX2_find 173 = .ok (.aload_n 0, 1) := by decide +kernel
theorem d_X2_find_174 : decode cX2_find 174 = .ok (.iload 4, 2) := by decide +kernel
theorem d_X2_find_176 : decode cX2_find 176 = .ok (.putfield 35, 3) := by decide +kernel
theorem d_X2_find_179 : decode cX2_find 179 = .ok (.iinc 4 1, 3) := by decide +kernel
theorem d_X2_find_182 : decode cX2_find 182 = .ok (.goto (-131), 3) := by decide +kernel
theorem d_X2_find_185 : decode cX2_find 185 = .ok (.return_, 1) := by decide +kernel
set_option maxRecDepth 100000 in
theorem L_X2_find {p : Program} {l : Launch} {e : Env} {s : State} {m : MethodId} {args : Array Value} {below : List Frame} {meth : Method} {c : Code} {D : va_G} {ca : Nat → ClassId} {ad sx sy : Nat → Nat} {A : Nat → Prop} {Q : QT} (C0 : CX p s m args meth c cX2_find 6 yX2_find.cls D ca ad A) (hE : EX sx sy A s s.heap) (hr : meth.sig.returnType = none) (hno : ∀ x ∈ c.exceptionTable.toList, False) : R_X2_find (JW p l e { frames := 12, cells := 0, slots := 6 * 0, locals := 248 } s m args below meth c 6 D ca ad A (vx_MQ below (Qn D ca ad A Q) (Qx D ca ad A Q) args s 0 (6 * 0) A) gz gz true) Q := ⟨s_aln C0 (d_X2_find_0) hgz (s_aln C0 (d_X2_find_1) hgz (s_iln C0 (d_X2_find_2) hgz (s_callV C0 hE (c_X2_chooseThings l) wg1023 wg1020 wg1022 ws62 wg8 ⟨by decide, by decide⟩ (by decide +kernel) (c0 := 2) rfl ⟨by decide, by decide⟩ ⟨by decide, by decide⟩ (d_X2_find_3) (fun x hx => (hno x hx).elim) ⟨by decide, by decide⟩ ⟨by decide, by decide⟩ (s_aln C0 (d_X2_find_6) hgz (s_aln C0 (d_X2_find_7) hgz (s_iln C0 (d_X2_find_8) hgz (s_callV C0 hE (c_X2_chooseCarriers l) wg1028 wg1025 wg1027 ws63 wg8 ⟨by decide, by decide⟩ (by decide +kernel) (c0 := 2) rfl ⟨by decide, by decide⟩ ⟨by decide, by decide⟩ (d_X2_find_9) (fun x hx => (hno x hx).elim) ⟨by decide, by decide⟩ ⟨by decide, by decide⟩ (s_aln C0 (d_X2_find_12) hgz (s_ic C0 (d_X2_find_13) hgz (s_pi C0 (j := 6) (c0 := 2) rfl gX2 tyX2_ok nmX2 (by decide) rfl (by decide) rfl rfl wg301 (d_X2_find_14) hgz (s_aln C0 (d_X2_find_17) hgz (s_ic C0 (d_X2_find_18) hgz (s_pi C0 (j := 7) (c0 := 2) rfl gX2 tyX2_ok nmX2 (by decide) rfl (by decide) rfl rfl wg303 (d_X2_find_19) hgz (s_aln C0 (d_X2_find_22) hgz (s_gr C0 (j := 4) (c0 := 2) rfl gX2 (by decide) rfl rfl wg299 (d_X2_find_23) hgz (s_ic C0 (d_X2_find_26) hgz (s_ic C0 (d_X2_find_27) hgz (s_iax C0 (d_X2_find_28) hgz (s_aln C0 (d_X2_find_29) hgz (s_gr C0 (j := 5) (c0 := 2) rfl gX2 (by decide) rfl rfl wg300 (d_X2_find_30) hgz (s_ic C0 (d_X2_find_33) hgz (s_aln C0 (d_X2_find_34) hgz (s_gi C0 (j := 2) (c0 := 2) rfl gX2 (by decide) rfl (by decide) wg297 (d_X2_find_35) hgz (s_zle C0 (d_X2_find_38) (by decide) hgz hgz (fun _ _ _ h => h) (s_ic C0 (d_X2_find_41) hgz (s_goto C0 (tgt := 47) (d_X2_find_42) (by decide) hgz (fun _ _ _ h => h)) (okn rfl))))) (okn rfl))))) (okn rfl)) (okn rfl))))) (okn rfl)))) (okn rfl)))))))))),
  s_ldc C0 (n := 1000000) wg1030 (d_X2_find_45) hgz (fun _ _ _ h => h) (okn rfl),
  s_iax C0 (d_X2_find_47) hgz (s_ic C0 (d_X2_find_48) hgz (s_is C0 (d_X2_find_49) hgz (fun _ _ _ h => h)) (okn rfl)),
  s_il C0 (d_X2_find_51) hgz (s_ic C0 (d_X2_find_53) hgz (s_aln C0 (d_X2_find_54) hgz (s_gi C0 (j := 0) (c0 := 2) rfl gX2 (by decide) rfl (by decide) wg295 (d_X2_find_55) hgz (s_shl C0 (d_X2_find_58) hgz (s_cge C0 (d_X2_find_59) (by decide) hgz hgz (fun _ _ _ h => h) (s_aln C0 (d_X2_find_62) hgz (s_gr C0 (j := 4) (c0 := 2) rfl gX2 (by decide) rfl rfl wg299 (d_X2_find_63) hgz (s_il C0 (d_X2_find_66) hgz (s_aln C0 (d_X2_find_68) hgz (s_gr C0 (j := 4) (c0 := 2) rfl gX2 (by decide) rfl rfl wg299 (d_X2_find_69) hgz (s_il C0 (d_X2_find_72) hgz (s_il C0 (d_X2_find_74) hgz (s_ic C0 (d_X2_find_76) hgz (s_sub C0 (d_X2_find_77) hgz (s_and C0 (d_X2_find_78) hgz (s_ia C0 (d_X2_find_79) hgz (s_aln C0 (d_X2_find_80) hgz (s_gr C0 (j := 1) (c0 := 2) rfl gX2 (by decide) rfl rfl wg296 (d_X2_find_81) hgz (s_il C0 (d_X2_find_84) hgz (s_callSN C0 hE (c_X10_lowestOf l) wg478 wn1031 wg477 wg1 ⟨by decide, by decide⟩ (by decide +kernel) ⟨by decide, by decide⟩ ⟨by decide, by decide⟩ (d_X2_find_86) (fun x hx => (hno x hx).elim) ⟨by decide, by decide⟩ ⟨by decide, by decide⟩ (s_ia C0 (d_X2_find_89) hgz (s_add C0 (d_X2_find_90) hgz (s_iax C0 (d_X2_find_91) hgz (s_aln C0 (d_X2_find_92) hgz (s_gr C0 (j := 5) (c0 := 2) rfl gX2 (by decide) rfl rfl wg300 (d_X2_find_93) hgz (s_il C0 (d_X2_find_96) hgz (s_aln C0 (d_X2_find_98) hgz (s_il C0 (d_X2_find_99) hgz (s_callV C0 hE (c_X2_needOf l) wg1035 wg1032 wg1034 ws64 wg8 ⟨by decide, by decide⟩ (by decide +kernel) (c0 := 2) rfl ⟨by decide, by decide⟩ ⟨by decide, by decide⟩ (d_X2_find_101) (fun x hx => (hno x hx).elim) ⟨by decide, by decide⟩ ⟨by decide, by decide⟩ (s_iax C0 (d_X2_find_104) hgz (s_aln C0 (d_X2_find_105) hgz (s_gr C0 (j := 5) (c0 := 2) rfl gX2 (by decide) rfl rfl wg300 (d_X2_find_106) hgz (s_il C0 (d_X2_find_109) hgz (s_ia C0 (d_X2_find_111) hgz (s_ldc C0 (n := 1000000) wg1030 (d_X2_find_112) hgz (s_ceq C0 (d_X2_find_114) (by decide) hgz hgz (fun _ _ _ h => h) (s_aln C0 (d_X2_find_117) hgz (s_gr C0 (j := 4) (c0 := 2) rfl gX2 (by decide) rfl rfl wg299 (d_X2_find_118) hgz (s_il C0 (d_X2_find_121) hgz (s_ia C0 (d_X2_find_123) hgz (s_iln C0 (d_X2_find_124) hgz (s_cle C0 (d_X2_find_125) (by decide) hgz hgz (fun _ _ _ h => h) (s_ic C0 (d_X2_find_128) hgz (s_goto C0 (tgt := 133) (d_X2_find_129) (by decide) hgz (fun _ _ _ h => h)) (okn rfl))))))))) (okn rfl))))))))))))))))))))))) (okn rfl))))))))))))) (okn rfl)),
  s_ic C0 (d_X2_find_132) hgz (fun _ _ _ h => h) (okn rfl),
  s_is C0 (d_X2_find_133) hgz (s_il C0 (d_X2_find_135) hgz (s_zeq C0 (d_X2_find_137) (by decide) hgz hgz (fun _ _ _ h => h) (s_aln C0 (d_X2_find_140) hgz (s_gi C0 (j := 6) (c0 := 2) rfl gX2 (by decide) rfl (by decide) wg301 (d_X2_find_141) hgz (s_ic C0 (d_X2_find_144) hgz (s_ceq C0 (d_X2_find_145) (by decide) hgz hgz (fun _ _ _ h => h) (s_aln C0 (d_X2_find_148) hgz (s_gr C0 (j := 4) (c0 := 2) rfl gX2 (by decide) rfl rfl wg299 (d_X2_find_149) hgz (s_il C0 (d_X2_find_152) hgz (s_ia C0 (d_X2_find_154) hgz (s_aln C0 (d_X2_find_155) hgz (s_gi C0 (j := 6) (c0 := 2) rfl gX2 (by decide) rfl (by decide) wg301 (d_X2_find_156) hgz (s_cge C0 (d_X2_find_159) (by decide) hgz hgz (fun _ _ _ h => h) (fun _ _ _ h => h))))))))) (okn rfl)))))),
  s_aln C0 (d_X2_find_162) hgz (s_aln C0 (d_X2_find_163) hgz (s_gr C0 (j := 4) (c0 := 2) rfl gX2 (by decide) rfl rfl wg299 (d_X2_find_164) hgz (s_il C0 (d_X2_find_167) hgz (s_ia C0 (d_X2_find_169) hgz (s_pi C0 (j := 6) (c0 := 2) rfl gX2 tyX2_ok nmX2 (by decide) rfl (by decide) rfl rfl wg301 (d_X2_find_170) hgz (s_aln C0 (d_X2_find_173) hgz (s_il C0 (d_X2_find_174) hgz (s_pi C0 (j := 7) (c0 := 2) rfl gX2 tyX2_ok nmX2 (by decide) rfl (by decide) rfl rfl wg303 (d_X2_find_176) hgz (fun _ _ _ h => h))))))))),
  s_inc C0 (d_X2_find_179) hgz (s_goto C0 (tgt := 51) (d_X2_find_182) (by decide) hgz (fun _ _ _ h => h)),
  s_rv C0 hr (d_X2_find_185) ⟨by decide, by decide⟩⟩
theorem c_X2_find (l : Launch) : Ctr l yX2_find cX2_find 6 none 12 248 0 (fun sx => (nf G_X2_find)) := ctr_of (by decide) gz gz ⟨rfl, rfl⟩ (fun p e s m args below meth c D ca ad sx sy A Q as M C0 hE hr hno hF => P_X2_find (L_X2_find C0 hE hr hno) hF)
theorem wn966 : Cond.methodLinkNest "WeighedHall" 212 ⟨"WeighedHall$Plan", "hasMotion", "(I)Z"⟩ "WeighedHall" ∈ NT := nt_mem 966 (by decide +kernel) rfl
theorem wn302 : Cond.fieldLinkNest "WeighedHall" 242 "WeighedHall$Carrying" "leastPounds" "I" "WeighedHall" ∈ NT := nt_mem 302 (by decide +kernel) rfl
theorem wg405 : Cond.fieldLink "WeighedHall" 71 "WeighedHall" "carrying" "LWeighedHall$Carrying;" ∈ GT := gt_mem 525 (by decide +kernel) rfl
theorem wg1019 : Cond.code ⟨"WeighedHall$Carrying", "find", "(LWeighedHall$Plan;II)V"⟩ prog_4_method_2_code 6 (Option.none : Option FieldType) ∈ GT := gt_mem 1139 (by decide +kernel) rfl
theorem wn1016 : Cond.methodLinkNest "WeighedHall" 238 ⟨"WeighedHall$Carrying", "find", "(LWeighedHall$Plan;II)V"⟩ "WeighedHall" ∈ NT := nt_mem 1016 (by decide +kernel) rfl
theorem wg1018 : Cond.instanceMethod ⟨"WeighedHall$Carrying", "find", "(LWeighedHall$Plan;II)V"⟩ ∈ GT := gt_mem 1138 (by decide +kernel) rfl
theorem ws61 : Cond.selects "WeighedHall$Carrying" ⟨"WeighedHall$Carrying", "find", "(LWeighedHall$Plan;II)V"⟩ ⟨"WeighedHall$Carrying", "find", "(LWeighedHall$Plan;II)V"⟩ ∈ GT := gt_mem 61 (by decide +kernel) rfl
theorem wn981 : Cond.methodLinkNest "WeighedHall" 222 ⟨"WeighedHall$Chronicle", "counted", "(III)I"⟩ "WeighedHall" ∈ NT := nt_mem 981 (by decide +kernel) rfl
theorem wn304 : Cond.fieldLinkNest "WeighedHall" 245 "WeighedHall$Carrying" "leastSet" "I" "WeighedHall" ∈ NT := nt_mem 304 (by decide +kernel) rfl
theorem d_X10_least_0 : decode cX10_least 0 = .ok (.aload_n 0, 1) := by decide +kernel
theorem d_X10_least_1 : decode cX10_least 1 = .ok (.aload_n 0, 1) := by decide +kernel
theorem d_X10_least_2 : decode cX10_least 2 = .ok (.getfield 19, 3) := by decide +kernel
theorem d_X10_least_5 : decode cX10_least 5 = .ok (.iload_n 1, 1) := by decide +kernel
theorem d_X10_least_6 : decode cX10_least 6 = .ok (.invokevirtual 212, 3) := by decide +kernel
theorem d_X10_least_9 : decode cX10_least 9 = .ok (.invokevirtual 160, 3) := by decide +kernel
theorem d_X10_least_12 : decode cX10_least 12 = .ok (.aload_n 0, 1) := by decide +kernel
theorem d_X10_least_13 : decode cX10_least 13 = .ok (.iload_n 2, 1) := by decide +kernel
theorem d_X10_least_14 : decode cX10_least 14 = .ok (.ifCond .eq 8, 3) := by decide +kernel
theorem d_X10_least_17 : decode cX10_least 17 = .ok (.iload_n 2, 1) := by decide +kernel
theorem d_X10_least_18 : decode cX10_least 18 = .ok (.iconst 1, 1) := by decide +kernel
theorem d_X10_least_19 : decode cX10_least 19 = .ok (.if_icmp .ne 7, 3) := by decide +kernel
theorem d_X10_least_22 : decode cX10_least 22 = .ok (.iconst 1, 1) := by decide +kernel
theorem d_X10_least_23 : decode cX10_least 23 = .ok (.goto 4, 3) := by decide +kernel
theorem d_X10_least_26 : decode cX10_least 26 = .ok (.iconst 0, 1) := by decide +kernel
theorem d_X10_least_27 : decode cX10_least 27 = .ok (.invokevirtual 104, 3) := by decide +kernel
theorem d_X10_least_30 : decode cX10_least 30 = .ok (.aload_n 0, 1) := by decide +kernel
theorem d_X10_least_31 : decode cX10_least 31 = .ok (.getfield 71, 3) := by decide +kernel
theorem d_X10_least_34 : decode cX10_least 34 = .ok (.aload_n 0, 1) := by decide +kernel
theorem d_X10_least_35 : decode cX10_least 35 = .ok (.getfield 19, 3) := by decide +kernel
theorem d_X10_least_38 : decode cX10_least 38 = .ok (.iload_n 1, 1) := by decide +kernel
theorem d_X10_least_39 : decode cX10_least 39 = .ok (.aload_n 0, 1) := by decide +kernel
theorem d_X10_least_40 : decode cX10_least 40 = .ok (.invokevirtual 186, 3) := by decide +kernel
theorem d_X10_least_43 : decode cX10_least 43 = .ok (.iload_n 1, 1) := by decide +kernel
theorem d_X10_least_44 : decode cX10_least 44 = .ok (.iconst 0, 1) := by decide +kernel
theorem d_X10_least_45 : decode cX10_least 45 = .ok (.iconst 1, 1) := by decide +kernel
theorem d_X10_least_46 : decode cX10_least 46 = .ok (.invokevirtual 222, 3) := by decide +kernel
theorem d_X10_least_49 : decode cX10_least 49 = .ok (.invokevirtual 238, 3) := by decide +kernel
theorem d_X10_least_52 : decode cX10_least 52 = .ok (.iload_n 2, 1) := by decide +kernel
theorem d_X10_least_53 : decode cX10_least 53 = .ok (.ifCond .ne 13, 3) := by decide +kernel
theorem d_X10_least_56 : decode cX10_least 56 = .ok (.aload_n 0, 1) := by decide +kernel
theorem d_X10_least_57 : decode cX10_least 57 = .ok (.getfield 71, 3) := by decide +kernel
theorem d_X10_least_60 : decode cX10_least 60 = .ok (.getfield 242, 3) := by decide +kernel
theorem d_X10_least_63 : decode cX10_least 63 = .ok (.goto 10, 3) := by decide +kernel
theorem d_X10_least_66 : decode cX10_least 66 = .ok (.aload_n 0, 1) := by decide +kernel
theorem d_X10_least_67 : decode cX10_least 67 = .ok (.getfield 71, 3) := by decide +kernel
theorem d_X10_least_70 : decode cX10_least 70 = .ok (.getfield 245, 3) := by decide +kernel
theorem d_X10_least_73 : decode cX10_least 73 = .ok (.ireturn, 1) := by decide +kernel
set_option maxRecDepth 100000 in
theorem L_X10_least {p : Program} {l : Launch} {e : Env} {s : State} {m : MethodId} {args : Array Value} {below : List Frame} {meth : Method} {c : Code} {D : va_G} {ca : Nat → ClassId} {ad sx sy : Nat → Nat} {A : Nat → Prop} {Q : QT} (hl0 : l.stackTraces = false) (C0 : CX p s m args meth c cX10_least 3 yX10_least.cls D ca ad A) (hE : EX sx sy A s s.heap) (hr : meth.sig.returnType = (some .int)) (hno : ∀ x ∈ c.exceptionTable.toList, False) : R_X10_least (JW p l e { frames := 16, cells := 2, slots := 6 * 2, locals := 336 } s m args below meth c 3 D ca ad A (vx_MQ below (Qn D ca ad A Q) (Qx D ca ad A Q) args s 2 (6 * 2) A) (gl [(9, 1), (27, 1)]) (gl6 [(9, 1), (27, 1)]) true) Q := ⟨s_aln C0 (d_X10_least_0) (hgq rfl) (s_aln C0 (d_X10_least_1) (hgq rfl) (s_gm C0 (j := 1) (c0 := 10) rfl gX10 (by decide) rfl rfl wg394 (d_X10_least_2) (hgq rfl) (s_iln C0 (d_X10_least_5) (hgq rfl) (s_callVN C0 hE (c_X6_hasMotion l) wg969 wn966 wg968 ws57 wg3 ⟨by decide, by decide⟩ (by decide +kernel) (c0 := 6) rfl ⟨by decide, by decide⟩ ⟨by decide, by decide⟩ (d_X10_least_6) (fun x hx => (hno x hx).elim) ⟨by decide, by decide⟩ ⟨by decide, by decide⟩ (s_callV C0 hE (c_X10_needElement l hl0) wg815 wg812 wg814 ws37 wg1 ⟨by decide, by decide⟩ (by decide +kernel) (c0 := 10) rfl ⟨by decide, by decide⟩ ⟨by decide, by decide⟩ (d_X10_least_9) (fun x hx => (hno x hx).elim) ⟨by decide, by decide⟩ ⟨by decide, by decide⟩ (s_aln C0 (d_X10_least_12) (hgq rfl) (s_iln C0 (d_X10_least_13) (hgq rfl) (s_zeq C0 (d_X10_least_14) (by decide) (hgq rfl) (hgq rfl) (fun _ _ _ h => h) (s_iln C0 (d_X10_least_17) (hgq rfl) (s_ic C0 (d_X10_least_18) (hgq rfl) (s_cne C0 (d_X10_least_19) (by decide) (hgq rfl) (hgq rfl) (fun _ _ _ h => h) (fun _ _ _ h => h)) (okn rfl))))))))))),
  s_ic C0 (d_X10_least_22) (hgq rfl) (s_goto C0 (tgt := 27) (d_X10_least_23) (by decide) (hgq rfl) (fun _ _ _ h => h)) (okn rfl),
  s_ic C0 (d_X10_least_26) (hgq rfl) (fun _ _ _ h => h) (okn rfl),
  s_callV C0 hE (c_X10_needArgument l hl0) wg563 wg560 wg562 ws13 wg1 ⟨by decide, by decide⟩ (by decide +kernel) (c0 := 10) rfl ⟨by decide, by decide⟩ ⟨by decide, by decide⟩ (d_X10_least_27) (fun x hx => (hno x hx).elim) ⟨by decide, by decide⟩ ⟨by decide, by decide⟩ (s_aln C0 (d_X10_least_30) (hgq rfl) (s_gr C0 (j := 12) (c0 := 10) rfl gX10 (by decide) rfl rfl wg405 (d_X10_least_31) (hgq rfl) (s_aln C0 (d_X10_least_34) (hgq rfl) (s_gm C0 (j := 1) (c0 := 10) rfl gX10 (by decide) rfl rfl wg394 (d_X10_least_35) (hgq rfl) (s_iln C0 (d_X10_least_38) (hgq rfl) (s_aln C0 (d_X10_least_39) (hgq rfl) (s_callV C0 hE (c_X10_chronicled l) wg844 wg841 wg843 ws38 wg1 ⟨by decide, by decide⟩ (by decide +kernel) (c0 := 10) rfl ⟨by decide, by decide⟩ ⟨by decide, by decide⟩ (d_X10_least_40) (fun x hx => (hno x hx).elim) ⟨by decide, by decide⟩ ⟨by decide, by decide⟩ (s_iln C0 (d_X10_least_43) (hgq rfl) (s_ic C0 (d_X10_least_44) (hgq rfl) (s_ic C0 (d_X10_least_45) (hgq rfl) (s_callVN C0 hE (c_X3_counted l) wg980 wn981 wg979 ws59 wg6 ⟨by decide, by decide⟩ (by decide +kernel) (c0 := 3) rfl ⟨by decide, by decide⟩ ⟨by decide, by decide⟩ (d_X10_least_46) (fun x hx => (hno x hx).elim) ⟨by decide, by decide⟩ ⟨by decide, by decide⟩ (s_callVN C0 hE (c_X2_find l) wg1019 wn1016 wg1018 ws61 wg8 ⟨by decide, by decide⟩ (by decide +kernel) (c0 := 2) rfl ⟨by decide, by decide⟩ ⟨by decide, by decide⟩ (d_X10_least_49) (fun x hx => (hno x hx).elim) ⟨by decide, by decide⟩ ⟨by decide, by decide⟩ (s_iln C0 (d_X10_least_52) (hgq rfl) (s_zne C0 (d_X10_least_53) (by decide) (hgq rfl) (hgq rfl) (fun _ _ _ h => h) (s_aln C0 (d_X10_least_56) (hgq rfl) (s_gr C0 (j := 12) (c0 := 10) rfl gX10 (by decide) rfl rfl wg405 (d_X10_least_57) (hgq rfl) (s_giN C0 (j := 6) (c0 := 2) rfl gX2 (by decide) rfl (by decide) wn302 (d_X10_least_60) (hgq rfl) (s_goto C0 (tgt := 73) (d_X10_least_63) (by decide) (hgq rfl) (fun _ _ _ h => h))))))))) (okn rfl)) (okn rfl)))))))))),
  s_aln C0 (d_X10_least_66) (hgq rfl) (s_gr C0 (j := 12) (c0 := 10) rfl gX10 (by decide) rfl rfl wg405 (d_X10_least_67) (hgq rfl) (s_giN C0 (j := 7) (c0 := 2) rfl gX2 (by decide) rfl (by decide) wn304 (d_X10_least_70) (hgq rfl) (fun _ _ _ h => h))),
  s_ri C0 hr (d_X10_least_73) ⟨by decide, by decide⟩⟩
theorem c_X10_least (l : Launch) (hl0 : l.stackTraces = false) : Ctr l yX10_least cX10_least 3 (some .int) 16 336 2 (fun sx => F_X10_least) := ctr_of (by decide) (gl [(9, 1), (27, 1)]) (gl6 [(9, 1), (27, 1)]) ⟨rfl, rfl⟩ (fun p e s m args below meth c D ca ad sx sy A Q as M C0 hE hr hno hF => P_X10_least (L_X10_least hl0 C0 hE hr hno) hF)
theorem wn781 : Cond.methodLinkNest "WeighedHall$Loans" 43 ⟨"WeighedHall$Tape", "refuse", "(I)V"⟩ "WeighedHall" ∈ NT := nt_mem 781 (by decide +kernel) rfl
theorem wn96 : Cond.fieldLinkNest "WeighedHall$Loans" 73 "WeighedHall$Plan" "owner" "[I" "WeighedHall" ∈ NT := nt_mem 96 (by decide +kernel) rfl
theorem wn788 : Cond.methodLinkNest "WeighedHall$Loans" 69 ⟨"WeighedHall$Plan", "hasThing", "(I)Z"⟩ "WeighedHall" ∈ NT := nt_mem 788 (by decide +kernel) rfl
theorem wn787 : Cond.methodLinkNest "WeighedHall$Loans" 66 ⟨"WeighedHall$Tape", "isSound", "()Z"⟩ "WeighedHall" ∈ NT := nt_mem 787 (by decide +kernel) rfl
theorem wn786 : Cond.methodLinkNest "WeighedHall$Loans" 59 ⟨"WeighedHall$Tape", "readNumber", "(II)I"⟩ "WeighedHall" ∈ NT := nt_mem 786 (by decide +kernel) rfl
theorem wn76 : Cond.fieldLinkNest "WeighedHall$Loans" 63 "WeighedHall$Plan" "persons" "I" "WeighedHall" ∈ NT := nt_mem 76 (by decide +kernel) rfl
theorem wn88 : Cond.fieldLinkNest "WeighedHall$Loans" 54 "WeighedHall$Plan" "things" "I" "WeighedHall" ∈ NT := nt_mem 88 (by decide +kernel) rfl
theorem d_X5_readLoan_0 : decode cX5_readLoan 0 = .ok (.aload_n 1, 1) := by decide +kernel
theorem d_X5_readLoan_1 : decode cX5_readLoan 1 = .ok (.iconst 0, 1) := by decide +kernel
theorem d_X5_readLoan_2 : decode cX5_readLoan 2 = .ok (.aload_n 2, 1) := by decide +kernel
theorem d_X5_readLoan_3 : decode cX5_readLoan 3 = .ok (.getfield 54, 3) := by decide +kernel
theorem d_X5_readLoan_6 : decode cX5_readLoan 6 = .ok (.iconst 1, 1) := by decide +kernel
theorem d_X5_readLoan_7 : decode cX5_readLoan 7 = .ok (.isub, 1) := by decide +kernel
theorem d_X5_readLoan_8 : decode cX5_readLoan 8 = .ok (.invokevirtual 59, 3) := by decide +kernel
theorem d_X5_readLoan_11 : decode cX5_readLoan 11 = .ok (.istore_n 3, 1) := by decide +kernel
theorem d_X5_readLoan_12 : decode cX5_readLoan 12 = .ok (.aload_n 1, 1) := by decide +kernel
theorem d_X5_readLoan_13 : decode cX5_readLoan 13 = .ok (.iconst 0, 1) := by decide +kernel
theorem d_X5_readLoan_14 : decode cX5_readLoan 14 = .ok (.aload_n 2, 1) := by decide +kernel
theorem d_X5_readLoan_15 : decode cX5_readLoan 15 = .ok (.getfield 63, 3) := by decide +kernel
theorem d_X5_readLoan_18 : decode cX5_readLoan 18 = .ok (.iconst 1, 1) := by decide +kernel
theorem d_X5_readLoan_19 : decode cX5_readLoan 19 = .ok (.isub, 1) := by decide +kernel
theorem d_X5_readLoan_20 : decode cX5_readLoan 20 = .ok (.invokevirtual 59, 3) := by decide +kernel
theorem d_X5_readLoan_23 : decode cX5_readLoan 23 = .ok (.istore 4, 2) := by decide +kernel
theorem d_X5_readLoan_25 : decode cX5_readLoan 25 = .ok (.aload_n 1, 1) := by decide +kernel
theorem d_X5_readLoan_26 : decode cX5_readLoan 26 = .ok (.invokevirtual 66, 3) := by decide +kernel
theorem d_X5_readLoan_29 : decode cX5_readLoan 29 = .ok (.ifCond .eq 27, 3) := by decide +kernel
theorem d_X5_readLoan_32 : decode cX5_readLoan 32 = .ok (.aload_n 2, 1) := by decide +kernel
theorem d_X5_readLoan_33 : decode cX5_readLoan 33 = .ok (.iload_n 3, 1) := by decide +kernel
theorem d_X5_readLoan_34 : decode cX5_readLoan 34 = .ok (.invokevirtual 69, 3) := by decide +kernel
theorem d_X5_readLoan_37 : decode cX5_readLoan 37 = .ok (.ifCond .eq 19, 3) := by decide +kernel
theorem d_X5_readLoan_40 : decode cX5_readLoan 40 = .ok (.aload_n 2, 1) := by decide +kernel
theorem d_X5_readLoan_41 : decode cX5_readLoan 41 = .ok (.getfield 73, 3) := by decide +kernel
theorem d_X5_readLoan_44 : decode cX5_readLoan 44 = .ok (.iload_n 3, 1) := by decide +kernel
theorem d_X5_readLoan_45 : decode cX5_readLoan 45 = .ok (.iaload, 1) := by decide +kernel
theorem d_X5_readLoan_46 : decode cX5_readLoan 46 = .ok (.iload 4, 2) := by decide +kernel
theorem d_X5_readLoan_48 : decode cX5_readLoan 48 = .ok (.if_icmp .ne 8, 3) := by decide +kernel
theorem d_X5_readLoan_51 : decode cX5_readLoan 51 = .ok (.aload_n 1, 1) := by decide +kernel
theorem d_X5_readLoan_52 : decode cX5_readLoan 52 = .ok (.iconst 2, 1) := by decide +kernel
theorem d_X5_readLoan_53 : decode cX5_readLoan 53 = .ok (.invokevirtual 43, 3) := by decide +kernel
theorem d_X5_readLoan_56 : decode cX5_readLoan 56 = .ok (.aload_n 1, 1) := by decide +kernel
theorem d_X5_readLoan_57 : decode cX5_readLoan 57 = .ok (.iconst 0, 1) := by decide +kernel
theorem d_X5_readLoan_58 : decode cX5_readLoan 58 = .ok (.bipush 119, 2) := by decide +kernel
theorem d_X5_readLoan_60 : decode cX5_readLoan 60 = .ok (.invokevirtual 59, 3) := by decide +kernel
theorem d_X5_readLoan_63 : decode cX5_readLoan 63 = .ok (.istore 5, 2) := by decide +kernel
theorem d_X5_readLoan_65 : decode cX5_readLoan 65 = .ok (.aload_n 1, 1) := by decide +kernel
theorem d_X5_readLoan_66 : decode cX5_readLoan 66 = .ok (.iload 5, 2) := by decide +kernel
theorem d_X5_readLoan_68 : decode cX5_readLoan 68 = .ok (.iconst 1, 1) := by decide +kernel
theorem d_X5_readLoan_69 : decode cX5_readLoan 69 = .ok (.iadd, 1) := by decide +kernel
theorem d_X5_readLoan_70 : decode cX5_readLoan 70 = .ok (.bipush 120, 2) := by decide +kernel
theorem d_X5_readLoan_72 : decode cX5_readLoan 72 = .ok (.invokevirtual 59, 3) := by decide +kernel
theorem d_X5_readLoan_75 : decode cX5_readLoan 75 = .ok (.istore 6, 2) := by decide +kernel
theorem d_X5_readLoan_77 : decode cX5_readLoan 77 = .ok (.aload_n 1, 1) := by decide +kernel
theorem d_X5_readLoan_78 : decode cX5_readLoan 78 = .ok (.invokevirtual 66, 3) := by decide +kernel
theorem d_X5_readLoan_81 : decode cX5_readLoan 81 = .ok (.ifCond .eq 65, 3) := by decide +kernel
theorem d_X5_readLoan_84 : decode cX5_readLoan 84 = .ok (.aload_n 0, 1) := by decide +kernel
theorem d_X5_readLoan_85 : decode cX5_readLoan 85 = .ok (.getfield 24, 3) := by decide +kernel
theorem d_X5_readLoan_88 : decode cX5_readLoan 88 = .ok (.bipush 20, 2) := by decide +kernel
theorem d_X5_readLoan_90 : decode cX5_readLoan 90 = .ok (.if_icmp .ge 56, 3) := by decide +kernel
theorem d_X5_readLoan_93 : decode cX5_readLoan 93 = .ok (.aload_n 0, 1) := by decide +kernel
theorem d_X5_readLoan_94 : decode cX5_readLoan 94 = .ok (.getfield 9, 3) := by decide +kernel
theorem d_X5_readLoan_97 : decode cX5_readLoan 97 = .ok (.aload_n 0, 1) := by decide +kernel
theorem d_X5_readLoan_98 : decode cX5_readLoan 98 = .ok (.getfield 24, 3) := by decide +kernel
theorem d_X5_readLoan_101 : decode cX5_readLoan 101 = .ok (.iload_n 3, 1) := by decide +kernel
theorem d_X5_readLoan_102 : decode cX5_readLoan 102 = .ok (.iastore, 1) := by decide +kernel
theorem d_X5_readLoan_103 : decode cX5_readLoan 103 = .ok (.aload_n 0, 1) := by decide +kernel
theorem d_X5_readLoan_104 : decode cX5_readLoan 104 = .ok (.getfield 15, 3) := by decide +kernel
theorem d_X5_readLoan_107 : decode cX5_readLoan 107 = .ok (.aload_n 0, 1) := by decide +kernel
theorem d_X5_readLoan_108 : decode cX5_readLoan 108 = .ok (.getfield 24, 3) := by decide +kernel
theorem d_X5_readLoan_111 : decode cX5_readLoan 111 = .ok (.iload 4, 2) := by decide +kernel
theorem d_X5_readLoan_113 : decode cX5_readLoan 113 = .ok (.iastore, 1) := by decide +kernel
theorem d_X5_readLoan_114 : decode cX5_readLoan 114 = .ok (.aload_n 0, 1) := by decide +kernel
theorem d_X5_readLoan_115 : decode cX5_readLoan 115 = .ok (.getfield 18, 3) := by decide +kernel
theorem d_X5_readLoan_118 : decode cX5_readLoan 118 = .ok (.aload_n 0, 1) := by decide +kernel
theorem d_X5_readLoan_119 : decode cX5_readLoan 119 = .ok (.getfield 24, 3) := by decide +kernel
theorem d_X5_readLoan_122 : decode cX5_readLoan 122 = .ok (.iload 5, 2) := by decide +kernel
theorem d_X5_readLoan_124 : decode cX5_readLoan 124 = .ok (.iastore, 1) := by decide +kernel
theorem d_X5_readLoan_125 : decode cX5_readLoan 125 = .ok (.aload_n 0, 1) := by decide +kernel
theorem d_X5_readLoan_126 : decode cX5_readLoan 126 = .ok (.getfield 21, 3) := by decide +kernel
theorem d_X5_readLoan_129 : decode cX5_readLoan 129 = .ok (.aload_n 0, 1) := by decide +kernel
theorem d_X5_readLoan_130 : decode cX5_readLoan 130 = .ok (.getfield 24, 3) := by decide +kernel
theorem d_X5_readLoan_133 : decode cX5_readLoan 133 = .ok (.iload 6, 2) := by decide +kernel
theorem d_X5_readLoan_135 : decode cX5_readLoan 135 = .ok (.iastore, 1) := by decide +kernel
theorem d_X5_readLoan_136 : decode cX5_readLoan 136 = .ok (.aload_n 0, 1) := by decide +kernel
theorem d_X5_readLoan_137 : decode cX5_readLoan 137 = .ok (.dup, 1) := by decide +kernel
theorem d_X5_readLoan_138 : decode cX5_readLoan 138 = .ok (.getfield 24, 3) := by decide +kernel
theorem d_X5_readLoan_141 : decode cX5_readLoan 141 = .ok (.iconst 1, 1) := by decide +kernel
theorem d_X5_readLoan_142 : decode cX5_readLoan 142 = .ok (.iadd, 1) := by decide +kernel
theorem d_X5_readLoan_143 : decode cX5_readLoan 143 = .ok (.putfield 24, 3) := by decide +kernel
theorem d_X5_readLoan_146 : decode cX5_readLoan 146 = .ok (.return_, 1) := by decide +kernel
set_option maxRecDepth 100000 in
theorem L_X5_readLoan {p : Program} {l : Launch} {e : Env} {s : State} {m : MethodId} {args : Array Value} {below : List Frame} {meth : Method} {c : Code} {D : va_G} {ca : Nat → ClassId} {ad sx sy : Nat → Nat} {A : Nat → Prop} {Q : QT} (C0 : CX p s m args meth c cX5_readLoan 7 yX5_readLoan.cls D ca ad A) (hE : EX sx sy A s s.heap) (hr : meth.sig.returnType = none) (hno : ∀ x ∈ c.exceptionTable.toList, False) : R_X5_readLoan (JW p l e { frames := 13, cells := 0, slots := 6 * 0, locals := 264 } s m args below meth c 7 D ca ad A (vx_MQ below (Qn D ca ad A Q) (Qx D ca ad A Q) args s 0 (6 * 0) A) gz gz true) Q := ⟨s_aln C0 (d_X5_readLoan_0) hgz (s_ic C0 (d_X5_readLoan_1) hgz (s_aln C0 (d_X5_readLoan_2) hgz (s_giN C0 (j := 3) (c0 := 6) rfl gX6 (by decide) rfl (by decide) wn88 (d_X5_readLoan_3) hgz (s_ic C0 (d_X5_readLoan_6) hgz (s_sub C0 (d_X5_readLoan_7) hgz (s_callVN C0 hE (c_X9_readNumber l) wg728 wn786 wg727 ws25 wg2 ⟨by decide, by decide⟩ (by decide +kernel) (c0 := 9) rfl ⟨by decide, by decide⟩ ⟨by decide, by decide⟩ (d_X5_readLoan_8) (fun x hx => (hno x hx).elim) ⟨by decide, by decide⟩ ⟨by decide, by decide⟩ (s_isn C0 (d_X5_readLoan_11) hgz (s_aln C0 (d_X5_readLoan_12) hgz (s_ic C0 (d_X5_readLoan_13) hgz (s_aln C0 (d_X5_readLoan_14) hgz (s_giN C0 (j := 0) (c0 := 6) rfl gX6 (by decide) rfl (by decide) wn76 (d_X5_readLoan_15) hgz (s_ic C0 (d_X5_readLoan_18) hgz (s_sub C0 (d_X5_readLoan_19) hgz (s_callVN C0 hE (c_X9_readNumber l) wg728 wn786 wg727 ws25 wg2 ⟨by decide, by decide⟩ (by decide +kernel) (c0 := 9) rfl ⟨by decide, by decide⟩ ⟨by decide, by decide⟩ (d_X5_readLoan_20) (fun x hx => (hno x hx).elim) ⟨by decide, by decide⟩ ⟨by decide, by decide⟩ (s_is C0 (d_X5_readLoan_23) hgz (s_aln C0 (d_X5_readLoan_25) hgz (s_callVN C0 hE (c_X9_isSound l) wg648 wn787 wg647 ws18 wg2 ⟨by decide, by decide⟩ (by decide +kernel) (c0 := 9) rfl ⟨by decide, by decide⟩ ⟨by decide, by decide⟩ (d_X5_readLoan_26) (fun x hx => (hno x hx).elim) ⟨by decide, by decide⟩ ⟨by decide, by decide⟩ (s_zeq C0 (d_X5_readLoan_29) (by decide) hgz hgz (fun _ _ _ h => h) (s_aln C0 (d_X5_readLoan_32) hgz (s_iln C0 (d_X5_readLoan_33) hgz (s_callVN C0 hE (c_X6_hasThing l) wg791 wn788 wg790 ws35 wg3 ⟨by decide, by decide⟩ (by decide +kernel) (c0 := 6) rfl ⟨by decide, by decide⟩ ⟨by decide, by decide⟩ (d_X5_readLoan_34) (fun x hx => (hno x hx).elim) ⟨by decide, by decide⟩ ⟨by decide, by decide⟩ (s_zeq C0 (d_X5_readLoan_37) (by decide) hgz hgz (fun _ _ _ h => h) (s_aln C0 (d_X5_readLoan_40) hgz (s_grN C0 (j := 4) (c0 := 6) rfl gX6 (by decide) rfl rfl wn96 (d_X5_readLoan_41) hgz (s_iln C0 (d_X5_readLoan_44) hgz (s_ia C0 (d_X5_readLoan_45) hgz (s_il C0 (d_X5_readLoan_46) hgz (s_cne C0 (d_X5_readLoan_48) (by decide) hgz hgz (fun _ _ _ h => h) (s_aln C0 (d_X5_readLoan_51) hgz (s_ic C0 (d_X5_readLoan_52) hgz (s_callVN C0 hE (c_X9_refuse l) wg720 wn781 wg719 ws23 wg2 ⟨by decide, by decide⟩ (by decide +kernel) (c0 := 9) rfl ⟨by decide, by decide⟩ ⟨by decide, by decide⟩ (d_X5_readLoan_53) (fun x hx => (hno x hx).elim) ⟨by decide, by decide⟩ ⟨by decide, by decide⟩ (fun _ _ _ h => h)) (okn rfl))))))))))))))))))) (okn rfl)))) (okn rfl)))))) (okn rfl)))) (okn rfl)),
  s_aln C0 (d_X5_readLoan_56) hgz (s_ic C0 (d_X5_readLoan_57) hgz (s_bi C0 (d_X5_readLoan_58) hgz (s_callVN C0 hE (c_X9_readNumber l) wg728 wn786 wg727 ws25 wg2 ⟨by decide, by decide⟩ (by decide +kernel) (c0 := 9) rfl ⟨by decide, by decide⟩ ⟨by decide, by decide⟩ (d_X5_readLoan_60) (fun x hx => (hno x hx).elim) ⟨by decide, by decide⟩ ⟨by decide, by decide⟩ (s_is C0 (d_X5_readLoan_63) hgz (s_aln C0 (d_X5_readLoan_65) hgz (s_il C0 (d_X5_readLoan_66) hgz (s_ic C0 (d_X5_readLoan_68) hgz (s_add C0 (d_X5_readLoan_69) hgz (s_bi C0 (d_X5_readLoan_70) hgz (s_callVN C0 hE (c_X9_readNumber l) wg728 wn786 wg727 ws25 wg2 ⟨by decide, by decide⟩ (by decide +kernel) (c0 := 9) rfl ⟨by decide, by decide⟩ ⟨by decide, by decide⟩ (d_X5_readLoan_72) (fun x hx => (hno x hx).elim) ⟨by decide, by decide⟩ ⟨by decide, by decide⟩ (s_is C0 (d_X5_readLoan_75) hgz (s_aln C0 (d_X5_readLoan_77) hgz (s_callVN C0 hE (c_X9_isSound l) wg648 wn787 wg647 ws18 wg2 ⟨by decide, by decide⟩ (by decide +kernel) (c0 := 9) rfl ⟨by decide, by decide⟩ ⟨by decide, by decide⟩ (d_X5_readLoan_78) (fun x hx => (hno x hx).elim) ⟨by decide, by decide⟩ ⟨by decide, by decide⟩ (s_zeq C0 (d_X5_readLoan_81) (by decide) hgz hgz (fun _ _ _ h => h) (s_aln C0 (d_X5_readLoan_84) hgz (s_gi C0 (j := 0) (c0 := 5) rfl gX5 (by decide) rfl (by decide) wg172 (d_X5_readLoan_85) hgz (s_bi C0 (d_X5_readLoan_88) hgz (s_cge C0 (d_X5_readLoan_90) (by decide) hgz hgz (fun _ _ _ h => h) (s_aln C0 (d_X5_readLoan_93) hgz (s_gr C0 (j := 1) (c0 := 5) rfl gX5 (by decide) rfl rfl wg175 (d_X5_readLoan_94) hgz (s_aln C0 (d_X5_readLoan_97) hgz (s_gi C0 (j := 0) (c0 := 5) rfl gX5 (by decide) rfl (by decide) wg172 (d_X5_readLoan_98) hgz (s_iln C0 (d_X5_readLoan_101) hgz (s_iax C0 (d_X5_readLoan_102) hgz (s_aln C0 (d_X5_readLoan_103) hgz (s_gr C0 (j := 2) (c0 := 5) rfl gX5 (by decide) rfl rfl wg177 (d_X5_readLoan_104) hgz (s_aln C0 (d_X5_readLoan_107) hgz (s_gi C0 (j := 0) (c0 := 5) rfl gX5 (by decide) rfl (by decide) wg172 (d_X5_readLoan_108) hgz (s_il C0 (d_X5_readLoan_111) hgz (s_iax C0 (d_X5_readLoan_113) hgz (s_aln C0 (d_X5_readLoan_114) hgz (s_gr C0 (j := 3) (c0 := 5) rfl gX5 (by decide) rfl rfl wg179 (d_X5_readLoan_115) hgz (s_aln C0 (d_X5_readLoan_118) hgz (s_gi C0 (j := 0) (c0 := 5) rfl gX5 (by decide) rfl (by decide) wg172 (d_X5_readLoan_119) hgz (s_il C0 (d_X5_readLoan_122) hgz (s_iax C0 (d_X5_readLoan_124) hgz (s_aln C0 (d_X5_readLoan_125) hgz (s_gr C0 (j := 4) (c0 := 5) rfl gX5 (by decide) rfl rfl wg181 (d_X5_readLoan_126) hgz (s_aln C0 (d_X5_readLoan_129) hgz (s_gi C0 (j := 0) (c0 := 5) rfl gX5 (by decide) rfl (by decide) wg172 (d_X5_readLoan_130) hgz (s_il C0 (d_X5_readLoan_133) hgz (s_iax C0 (d_X5_readLoan_135) hgz (s_aln C0 (d_X5_readLoan_136) hgz (s_dup C0 (d_X5_readLoan_137) hgz (s_gi C0 (j := 0) (c0 := 5) rfl gX5 (by decide) rfl (by decide) wg172 (d_X5_readLoan_138) hgz (s_ic C0 (d_X5_readLoan_141) hgz (s_add C0 (d_X5_readLoan_142) hgz (s_pi C0 (j := 0) (c0 := 5) rfl gX5 tyX5_ok nmX5 (by decide) rfl (by decide) rfl rfl wg172 (d_X5_readLoan_143) hgz (fun _ _ _ h => h))) (okn rfl)))))))))))))))))))))))))))))) (okn rfl) rfl)))))))) (okn rfl) rfl)) (okn rfl)))))) (okn rfl) rfl) (okn rfl)),
  s_rv C0 hr (d_X5_readLoan_146) ⟨by decide, by decide⟩⟩
theorem c_X5_readLoan (l : Launch) : Ctr l yX5_readLoan cX5_readLoan 7 none 13 264 0 (fun sx => (nf G_X5_readLoan)) := ctr_of (by decide) gz gz ⟨rfl, rfl⟩ (fun p e s m args below meth c D ca ad sx sy A Q as M C0 hE hr hno hF => P_X5_readLoan (L_X5_readLoan C0 hE hr hno) hF)
