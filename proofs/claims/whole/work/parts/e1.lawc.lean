theorem wg1100 : Cond.code ⟨"WeighedHall", "bring", "(II)I"⟩ prog_1_method_23_code 3 (Option.some .int) ∈ GT := gt_mem 1220 (by decide +kernel) rfl
theorem wg1097 : Cond.methodLink "WeighedHallLaw" 68 ⟨"WeighedHall", "bring", "(II)I"⟩ ∈ GT := gt_mem 1217 (by decide +kernel) rfl
theorem wg1098 : Cond.instanceMethod ⟨"WeighedHall", "bring", "(II)I"⟩ ∈ GT := gt_mem 1218 (by decide +kernel) rfl
theorem wg1099 : Cond.selects "WeighedHall" ⟨"WeighedHall", "bring", "(II)I"⟩ ⟨"WeighedHall", "bring", "(II)I"⟩ ∈ GT := gt_mem 1219 (by decide +kernel) rfl
theorem wg803 : Cond.classLink "WeighedHallLaw" 25 "java/util/NoSuchElementException" ∈ GT := gt_mem 923 (by decide +kernel) rfl
theorem wg555 : Cond.classLink "WeighedHallLaw" 13 "java/lang/IllegalArgumentException" ∈ GT := gt_mem 675 (by decide +kernel) rfl
theorem d_L_bring_0 : decode cL_bring 0 = .ok (.aload_n 3, 1) := by decide +kernel
theorem d_L_bring_1 : decode cL_bring 1 = .ok (.iconst 0, 1) := by decide +kernel
theorem d_L_bring_2 : decode cL_bring 2 = .ok (.aload_n 0, 1) := by decide +kernel
theorem d_L_bring_3 : decode cL_bring 3 = .ok (.iload_n 1, 1) := by decide +kernel
theorem d_L_bring_4 : decode cL_bring 4 = .ok (.iload_n 2, 1) := by decide +kernel
theorem d_L_bring_5 : decode cL_bring 5 = .ok (.invokevirtual 68, 3) := by decide +kernel
theorem d_L_bring_8 : decode cL_bring 8 = .ok (.i2l, 1) := by decide +kernel
theorem d_L_bring_9 : decode cL_bring 9 = .ok (.lastore, 1) := by decide +kernel
theorem d_L_bring_10 : decode cL_bring 10 = .ok (.goto 11, 3) := by decide +kernel
theorem d_L_bring_13 : decode cL_bring 13 = .ok (.astore 4, 2) := by decide +kernel
theorem d_L_bring_15 : decode cL_bring 15 = .ok (.iconst 1, 1) := by decide +kernel
theorem d_L_bring_16 : decode cL_bring 16 = .ok (.ireturn, 1) := by decide +kernel
theorem d_L_bring_17 : decode cL_bring 17 = .ok (.astore 4, 2) := by decide +kernel
theorem d_L_bring_19 : decode cL_bring 19 = .ok (.iconst 2, 1) := by decide +kernel
theorem d_L_bring_20 : decode cL_bring 20 = .ok (.ireturn, 1) := by decide +kernel
theorem d_L_bring_21 : decode cL_bring 21 = .ok (.iconst 0, 1) := by decide +kernel
theorem d_L_bring_22 : decode cL_bring 22 = .ok (.ireturn, 1) := by decide +kernel
set_option maxRecDepth 100000 in
theorem L_L_bring {p : Program} {l : Launch} {e : Env} {s : State} {m : MethodId} {args : Array Value} {below : List Frame} {meth : Method} {c : Code} {D : va_G} {ca : Nat → ClassId} {ad sx sy : Nat → Nat} {A : Nat → Prop} {Q : QT} (hl0 : l.stackTraces = false) (C0 : CX p s m args meth c cL_bring 5 yL_bring.cls D ca ad A) (hE : EX sx sy A s s.heap) (hr : meth.sig.returnType = (some .int)) (ht : c.exceptionTable.toList = tableOf [(0, 10, 13, 25), (0, 10, 17, 13)]) : R_L_bring (JW p l e { frames := 15, cells := 2, slots := 6 * 2, locals := 318 } s m args below meth c 5 D ca ad A (vx_MQ below (Qn D ca ad A Q) (Qx D ca ad A Q) args s 2 (6 * 2) A) (gl [(5, 2)]) (gl6 [(5, 2)]) true) Q := ⟨s_aln C0 (d_L_bring_0) (hgq rfl) (s_ic C0 (d_L_bring_1) (hgq rfl) (s_aln C0 (d_L_bring_2) (hgq rfl) (s_iln C0 (d_L_bring_3) (hgq rfl) (s_iln C0 (d_L_bring_4) (hgq rfl) (s_callVh C0 hE ht (goes_C hE rfl ⟨by decide, by decide⟩ ⟨by decide, by decide⟩ wg803 wg555 fc1 fc2) (c_X10_bring l hl0) wg1100 wg1097 wg1098 wg1099 wg1 ⟨by decide, by decide⟩ (by decide +kernel) (c0 := 10) rfl ⟨by decide, by decide⟩ ⟨by decide, by decide⟩ (d_L_bring_5) ⟨by decide, by decide⟩ ⟨by decide, by decide⟩ (fun _ _ _ _ h => h) (s_i2l C0 (d_L_bring_8) (hgq rfl) (s_lax C0 (d_L_bring_9) (hgq rfl) (s_goto C0 (tgt := 21) (d_L_bring_10) (by decide) (hgq rfl) (fun _ _ _ h => h)))))))) (okn rfl)),
  s_as C0 (d_L_bring_13) (hgq rfl) (s_ic C0 (d_L_bring_15) (hgq rfl) (s_ri C0 hr (d_L_bring_16) ⟨by decide, by decide⟩) (okn rfl)),
  s_as C0 (d_L_bring_17) (hgq rfl) (s_ic C0 (d_L_bring_19) (hgq rfl) (s_ri C0 hr (d_L_bring_20) ⟨by decide, by decide⟩) (okn rfl)),
  s_ic C0 (d_L_bring_21) (hgq rfl) (s_ri C0 hr (d_L_bring_22) ⟨by decide, by decide⟩) (okn rfl)⟩
theorem c_L_bring (l : Launch) (hl0 : l.stackTraces = false) : CtrH l yL_bring cL_bring 5 (some .int) [(0, 10, 13, 25), (0, 10, 17, 13)] 15 318 2 (fun sx => (nf G_L_bring)) := ctrH_of (by decide) (gl [(5, 2)]) (gl6 [(5, 2)]) ⟨rfl, rfl⟩ (fun p e s m args below meth c D ca ad sx sy A Q as M C0 hE hr hno hF => P_L_bring (L_L_bring hl0 C0 hE hr hno) hF)
theorem wg1047 : Cond.code ⟨"WeighedHall", "decides", "(I)I"⟩ prog_1_method_17_code 4 (Option.some .int) ∈ GT := gt_mem 1167 (by decide +kernel) rfl
theorem wg1044 : Cond.methodLink "WeighedHallLaw" 55 ⟨"WeighedHall", "decides", "(I)I"⟩ ∈ GT := gt_mem 1164 (by decide +kernel) rfl
theorem wg1045 : Cond.instanceMethod ⟨"WeighedHall", "decides", "(I)I"⟩ ∈ GT := gt_mem 1165 (by decide +kernel) rfl
theorem wg1046 : Cond.selects "WeighedHall" ⟨"WeighedHall", "decides", "(I)I"⟩ ⟨"WeighedHall", "decides", "(I)I"⟩ ∈ GT := gt_mem 1166 (by decide +kernel) rfl
theorem d_L_decides_0 : decode cL_decides 0 = .ok (.aload_n 2, 1) := by decide +kernel
theorem d_L_decides_1 : decode cL_decides 1 = .ok (.iconst 0, 1) := by decide +kernel
theorem d_L_decides_2 : decode cL_decides 2 = .ok (.aload_n 0, 1) := by decide +kernel
theorem d_L_decides_3 : decode cL_decides 3 = .ok (.iload_n 1, 1) := by decide +kernel
theorem d_L_decides_4 : decode cL_decides 4 = .ok (.invokevirtual 55, 3) := by decide +kernel
theorem d_L_decides_7 : decode cL_decides 7 = .ok (.i2l, 1) := by decide +kernel
theorem d_L_decides_8 : decode cL_decides 8 = .ok (.lastore, 1) := by decide +kernel
theorem d_L_decides_9 : decode cL_decides 9 = .ok (.goto 6, 3) := by decide +kernel
theorem d_L_decides_12 : decode cL_decides 12 = .ok (.astore_n 3, 1) := by decide +kernel
theorem d_L_decides_13 : decode cL_decides 13 = .ok (.iconst 1, 1) := by decide +kernel
theorem d_L_decides_14 : decode cL_decides 14 = .ok (.ireturn, 1) := by decide +kernel
theorem d_L_decides_15 : decode cL_decides 15 = .ok (.iconst 0, 1) := by decide +kernel
theorem d_L_decides_16 : decode cL_decides 16 = .ok (.ireturn, 1) := by decide +kernel
set_option maxRecDepth 100000 in
theorem L_L_decides {p : Program} {l : Launch} {e : Env} {s : State} {m : MethodId} {args : Array Value} {below : List Frame} {meth : Method} {c : Code} {D : va_G} {ca : Nat → ClassId} {ad sx sy : Nat → Nat} {A : Nat → Prop} {Q : QT} (hl0 : l.stackTraces = false) (C0 : CX p s m args meth c cL_decides 4 yL_decides.cls D ca ad A) (hE : EX sx sy A s s.heap) (hr : meth.sig.returnType = (some .int)) (ht : c.exceptionTable.toList = tableOf [(0, 9, 12, 25)]) : R_L_decides (JW p l e { frames := 17, cells := 1, slots := 6 * 1, locals := 359 } s m args below meth c 4 D ca ad A (vx_MQ below (Qn D ca ad A Q) (Qx D ca ad A Q) args s 1 (6 * 1) A) (gl [(4, 1)]) (gl6 [(4, 1)]) true) Q := ⟨s_aln C0 (d_L_decides_0) (hgq rfl) (s_ic C0 (d_L_decides_1) (hgq rfl) (s_aln C0 (d_L_decides_2) (hgq rfl) (s_iln C0 (d_L_decides_3) (hgq rfl) (s_callVh C0 hE ht (goes_B hE rfl ⟨by decide, by decide⟩ wg803 fc1) (c_X10_decides l hl0) wg1047 wg1044 wg1045 wg1046 wg1 ⟨by decide, by decide⟩ (by decide +kernel) (c0 := 10) rfl ⟨by decide, by decide⟩ ⟨by decide, by decide⟩ (d_L_decides_4) ⟨by decide, by decide⟩ ⟨by decide, by decide⟩ (fun _ _ _ _ h => h) (s_i2l C0 (d_L_decides_7) (hgq rfl) (s_lax C0 (d_L_decides_8) (hgq rfl) (s_goto C0 (tgt := 15) (d_L_decides_9) (by decide) (hgq rfl) (fun _ _ _ h => h))))))) (okn rfl)),
  s_asn C0 (d_L_decides_12) (hgq rfl) (s_ic C0 (d_L_decides_13) (hgq rfl) (s_ri C0 hr (d_L_decides_14) ⟨by decide, by decide⟩) (okn rfl)),
  s_ic C0 (d_L_decides_15) (hgq rfl) (s_ri C0 hr (d_L_decides_16) ⟨by decide, by decide⟩) (okn rfl)⟩
theorem c_L_decides (l : Launch) (hl0 : l.stackTraces = false) : CtrH l yL_decides cL_decides 4 (some .int) [(0, 9, 12, 25)] 17 359 1 (fun sx => (nf G_L_decides)) := ctrH_of (by decide) (gl [(4, 1)]) (gl6 [(4, 1)]) ⟨rfl, rfl⟩ (fun p e s m args below meth c D ca ad sx sy A Q as M C0 hE hr hno hF => P_L_decides (L_L_decides hl0 C0 hE hr hno) hF)
theorem wg559 : Cond.code ⟨"WeighedHall", "hall", "(I)I"⟩ prog_1_method_3_code 3 (Option.some .int) ∈ GT := gt_mem 679 (by decide +kernel) rfl
theorem wg556 : Cond.methodLink "WeighedHallLaw" 7 ⟨"WeighedHall", "hall", "(I)I"⟩ ∈ GT := gt_mem 676 (by decide +kernel) rfl
theorem wg557 : Cond.instanceMethod ⟨"WeighedHall", "hall", "(I)I"⟩ ∈ GT := gt_mem 677 (by decide +kernel) rfl
theorem wg558 : Cond.selects "WeighedHall" ⟨"WeighedHall", "hall", "(I)I"⟩ ⟨"WeighedHall", "hall", "(I)I"⟩ ∈ GT := gt_mem 678 (by decide +kernel) rfl
theorem d_L_hall_0 : decode cL_hall 0 = .ok (.aload_n 2, 1) := by decide +kernel
theorem d_L_hall_1 : decode cL_hall 1 = .ok (.iconst 0, 1) := by decide +kernel
theorem d_L_hall_2 : decode cL_hall 2 = .ok (.aload_n 0, 1) := by decide +kernel
theorem d_L_hall_3 : decode cL_hall 3 = .ok (.iload_n 1, 1) := by decide +kernel
theorem d_L_hall_4 : decode cL_hall 4 = .ok (.invokevirtual 7, 3) := by decide +kernel
theorem d_L_hall_7 : decode cL_hall 7 = .ok (.i2l, 1) := by decide +kernel
theorem d_L_hall_8 : decode cL_hall 8 = .ok (.lastore, 1) := by decide +kernel
theorem d_L_hall_9 : decode cL_hall 9 = .ok (.goto 6, 3) := by decide +kernel
theorem d_L_hall_12 : decode cL_hall 12 = .ok (.astore_n 3, 1) := by decide +kernel
theorem d_L_hall_13 : decode cL_hall 13 = .ok (.iconst 1, 1) := by decide +kernel
theorem d_L_hall_14 : decode cL_hall 14 = .ok (.ireturn, 1) := by decide +kernel
theorem d_L_hall_15 : decode cL_hall 15 = .ok (.iconst 0, 1) := by decide +kernel
theorem d_L_hall_16 : decode cL_hall 16 = .ok (.ireturn, 1) := by decide +kernel
set_option maxRecDepth 100000 in
theorem L_L_hall {p : Program} {l : Launch} {e : Env} {s : State} {m : MethodId} {args : Array Value} {below : List Frame} {meth : Method} {c : Code} {D : va_G} {ca : Nat → ClassId} {ad sx sy : Nat → Nat} {A : Nat → Prop} {Q : QT} (hl0 : l.stackTraces = false) (C0 : CX p s m args meth c cL_hall 4 yL_hall.cls D ca ad A) (hE : EX sx sy A s s.heap) (hr : meth.sig.returnType = (some .int)) (ht : c.exceptionTable.toList = tableOf [(0, 9, 12, 13)]) : R_L_hall (JW p l e { frames := 18, cells := 1, slots := 6 * 1, locals := 374 } s m args below meth c 4 D ca ad A (vx_MQ below (Qn D ca ad A Q) (Qx D ca ad A Q) args s 1 (6 * 1) A) (gl [(4, 1)]) (gl6 [(4, 1)]) true) Q := ⟨s_aln C0 (d_L_hall_0) (hgq rfl) (s_ic C0 (d_L_hall_1) (hgq rfl) (s_aln C0 (d_L_hall_2) (hgq rfl) (s_iln C0 (d_L_hall_3) (hgq rfl) (s_callVh C0 hE ht (goes_A hE rfl ⟨by decide, by decide⟩ wg555 fc2) (c_X10_hall l hl0) wg559 wg556 wg557 wg558 wg1 ⟨by decide, by decide⟩ (by decide +kernel) (c0 := 10) rfl ⟨by decide, by decide⟩ ⟨by decide, by decide⟩ (d_L_hall_4) ⟨by decide, by decide⟩ ⟨by decide, by decide⟩ (fun _ _ _ _ h => h) (s_i2l C0 (d_L_hall_7) (hgq rfl) (s_lax C0 (d_L_hall_8) (hgq rfl) (s_goto C0 (tgt := 15) (d_L_hall_9) (by decide) (hgq rfl) (fun _ _ _ h => h))))))) (okn rfl)),
  s_asn C0 (d_L_hall_12) (hgq rfl) (s_ic C0 (d_L_hall_13) (hgq rfl) (s_ri C0 hr (d_L_hall_14) ⟨by decide, by decide⟩) (okn rfl)),
  s_ic C0 (d_L_hall_15) (hgq rfl) (s_ri C0 hr (d_L_hall_16) ⟨by decide, by decide⟩) (okn rfl)⟩
theorem c_L_hall (l : Launch) (hl0 : l.stackTraces = false) : CtrH l yL_hall cL_hall 4 (some .int) [(0, 9, 12, 13)] 18 374 1 (fun sx => (nf G_L_hall)) := ctrH_of (by decide) (gl [(4, 1)]) (gl6 [(4, 1)]) ⟨rfl, rfl⟩ (fun p e s m args below meth c D ca ad sx sy A Q as M C0 hE hr hno hF => P_L_hall (L_L_hall hl0 C0 hE hr hno) hF)
theorem wg928 : Cond.code ⟨"WeighedHall", "holds", "(II)I"⟩ prog_1_method_9_code 3 (Option.some .int) ∈ GT := gt_mem 1048 (by decide +kernel) rfl
theorem wg925 : Cond.methodLink "WeighedHallLaw" 30 ⟨"WeighedHall", "holds", "(II)I"⟩ ∈ GT := gt_mem 1045 (by decide +kernel) rfl
theorem wg926 : Cond.instanceMethod ⟨"WeighedHall", "holds", "(II)I"⟩ ∈ GT := gt_mem 1046 (by decide +kernel) rfl
theorem wg927 : Cond.selects "WeighedHall" ⟨"WeighedHall", "holds", "(II)I"⟩ ⟨"WeighedHall", "holds", "(II)I"⟩ ∈ GT := gt_mem 1047 (by decide +kernel) rfl
theorem d_L_holds_0 : decode cL_holds 0 = .ok (.aload_n 3, 1) := by decide +kernel
theorem d_L_holds_1 : decode cL_holds 1 = .ok (.iconst 0, 1) := by decide +kernel
theorem d_L_holds_2 : decode cL_holds 2 = .ok (.aload_n 0, 1) := by decide +kernel
theorem d_L_holds_3 : decode cL_holds 3 = .ok (.iload_n 1, 1) := by decide +kernel
theorem d_L_holds_4 : decode cL_holds 4 = .ok (.iload_n 2, 1) := by decide +kernel
theorem d_L_holds_5 : decode cL_holds 5 = .ok (.invokevirtual 30, 3) := by decide +kernel
theorem d_L_holds_8 : decode cL_holds 8 = .ok (.i2l, 1) := by decide +kernel
theorem d_L_holds_9 : decode cL_holds 9 = .ok (.lastore, 1) := by decide +kernel
theorem d_L_holds_10 : decode cL_holds 10 = .ok (.goto 11, 3) := by decide +kernel
theorem d_L_holds_13 : decode cL_holds 13 = .ok (.astore 4, 2) := by decide +kernel
theorem d_L_holds_15 : decode cL_holds 15 = .ok (.iconst 1, 1) := by decide +kernel
theorem d_L_holds_16 : decode cL_holds 16 = .ok (.ireturn, 1) := by decide +kernel
theorem d_L_holds_17 : decode cL_holds 17 = .ok (.astore 4, 2) := by decide +kernel
theorem d_L_holds_19 : decode cL_holds 19 = .ok (.iconst 2, 1) := by decide +kernel
theorem d_L_holds_20 : decode cL_holds 20 = .ok (.ireturn, 1) := by decide +kernel
theorem d_L_holds_21 : decode cL_holds 21 = .ok (.iconst 0, 1) := by decide +kernel
theorem d_L_holds_22 : decode cL_holds 22 = .ok (.ireturn, 1) := by decide +kernel
set_option maxRecDepth 100000 in
theorem L_L_holds {p : Program} {l : Launch} {e : Env} {s : State} {m : MethodId} {args : Array Value} {below : List Frame} {meth : Method} {c : Code} {D : va_G} {ca : Nat → ClassId} {ad sx sy : Nat → Nat} {A : Nat → Prop} {Q : QT} (hl0 : l.stackTraces = false) (C0 : CX p s m args meth c cL_holds 5 yL_holds.cls D ca ad A) (hE : EX sx sy A s s.heap) (hr : meth.sig.returnType = (some .int)) (ht : c.exceptionTable.toList = tableOf [(0, 10, 13, 25), (0, 10, 17, 13)]) : R_L_holds (JW p l e { frames := 17, cells := 2, slots := 6 * 2, locals := 358 } s m args below meth c 5 D ca ad A (vx_MQ below (Qn D ca ad A Q) (Qx D ca ad A Q) args s 2 (6 * 2) A) (gl [(5, 2)]) (gl6 [(5, 2)]) true) Q := ⟨s_aln C0 (d_L_holds_0) (hgq rfl) (s_ic C0 (d_L_holds_1) (hgq rfl) (s_aln C0 (d_L_holds_2) (hgq rfl) (s_iln C0 (d_L_holds_3) (hgq rfl) (s_iln C0 (d_L_holds_4) (hgq rfl) (s_callVh C0 hE ht (goes_C hE rfl ⟨by decide, by decide⟩ ⟨by decide, by decide⟩ wg803 wg555 fc1 fc2) (c_X10_holds l hl0) wg928 wg925 wg926 wg927 wg1 ⟨by decide, by decide⟩ (by decide +kernel) (c0 := 10) rfl ⟨by decide, by decide⟩ ⟨by decide, by decide⟩ (d_L_holds_5) ⟨by decide, by decide⟩ ⟨by decide, by decide⟩ (fun _ _ _ _ h => h) (s_i2l C0 (d_L_holds_8) (hgq rfl) (s_lax C0 (d_L_holds_9) (hgq rfl) (s_goto C0 (tgt := 21) (d_L_holds_10) (by decide) (hgq rfl) (fun _ _ _ h => h)))))))) (okn rfl)),
  s_as C0 (d_L_holds_13) (hgq rfl) (s_ic C0 (d_L_holds_15) (hgq rfl) (s_ri C0 hr (d_L_holds_16) ⟨by decide, by decide⟩) (okn rfl)),
  s_as C0 (d_L_holds_17) (hgq rfl) (s_ic C0 (d_L_holds_19) (hgq rfl) (s_ri C0 hr (d_L_holds_20) ⟨by decide, by decide⟩) (okn rfl)),
  s_ic C0 (d_L_holds_21) (hgq rfl) (s_ri C0 hr (d_L_holds_22) ⟨by decide, by decide⟩) (okn rfl)⟩
theorem c_L_holds (l : Launch) (hl0 : l.stackTraces = false) : CtrH l yL_holds cL_holds 5 (some .int) [(0, 10, 13, 25), (0, 10, 17, 13)] 17 358 2 (fun sx => (nf G_L_holds)) := ctrH_of (by decide) (gl [(5, 2)]) (gl6 [(5, 2)]) ⟨rfl, rfl⟩ (fun p e s m args below meth c D ca ad sx sy A Q as M C0 hE hr hno hF => P_L_holds (L_L_holds hl0 C0 hE hr hno) hF)
theorem wg1138 : Cond.code ⟨"WeighedHall", "hollow", "(I)I"⟩ prog_1_method_26_code 2 (Option.some .int) ∈ GT := gt_mem 1258 (by decide +kernel) rfl
theorem wg1135 : Cond.methodLink "WeighedHallLaw" 74 ⟨"WeighedHall", "hollow", "(I)I"⟩ ∈ GT := gt_mem 1255 (by decide +kernel) rfl
theorem wg1136 : Cond.instanceMethod ⟨"WeighedHall", "hollow", "(I)I"⟩ ∈ GT := gt_mem 1256 (by decide +kernel) rfl
theorem wg1137 : Cond.selects "WeighedHall" ⟨"WeighedHall", "hollow", "(I)I"⟩ ⟨"WeighedHall", "hollow", "(I)I"⟩ ∈ GT := gt_mem 1257 (by decide +kernel) rfl
theorem d_L_hollow_0 : decode cL_hollow 0 = .ok (.aload_n 2, 1) := by decide +kernel
theorem d_L_hollow_1 : decode cL_hollow 1 = .ok (.iconst 0, 1) := by decide +kernel
theorem d_L_hollow_2 : decode cL_hollow 2 = .ok (.aload_n 0, 1) := by decide +kernel
theorem d_L_hollow_3 : decode cL_hollow 3 = .ok (.iload_n 1, 1) := by decide +kernel
theorem d_L_hollow_4 : decode cL_hollow 4 = .ok (.invokevirtual 74, 3) := by decide +kernel
theorem d_L_hollow_7 : decode cL_hollow 7 = .ok (.i2l, 1) := by decide +kernel
theorem d_L_hollow_8 : decode cL_hollow 8 = .ok (.lastore, 1) := by decide +kernel
theorem d_L_hollow_9 : decode cL_hollow 9 = .ok (.goto 6, 3) := by decide +kernel
theorem d_L_hollow_12 : decode cL_hollow 12 = .ok (.astore_n 3, 1) := by decide +kernel
theorem d_L_hollow_13 : decode cL_hollow 13 = .ok (.iconst 1, 1) := by decide +kernel
theorem d_L_hollow_14 : decode cL_hollow 14 = .ok (.ireturn, 1) := by decide +kernel
theorem d_L_hollow_15 : decode cL_hollow 15 = .ok (.iconst 0, 1) := by decide +kernel
theorem d_L_hollow_16 : decode cL_hollow 16 = .ok (.ireturn, 1) := by decide +kernel
set_option maxRecDepth 100000 in
theorem L_L_hollow {p : Program} {l : Launch} {e : Env} {s : State} {m : MethodId} {args : Array Value} {below : List Frame} {meth : Method} {c : Code} {D : va_G} {ca : Nat → ClassId} {ad sx sy : Nat → Nat} {A : Nat → Prop} {Q : QT} (hl0 : l.stackTraces = false) (C0 : CX p s m args meth c cL_hollow 4 yL_hollow.cls D ca ad A) (hE : EX sx sy A s s.heap) (hr : meth.sig.returnType = (some .int)) (ht : c.exceptionTable.toList = tableOf [(0, 9, 12, 13)]) : R_L_hollow (JW p l e { frames := 15, cells := 1, slots := 6 * 1, locals := 312 } s m args below meth c 4 D ca ad A (vx_MQ below (Qn D ca ad A Q) (Qx D ca ad A Q) args s 1 (6 * 1) A) (gl [(4, 1)]) (gl6 [(4, 1)]) true) Q := ⟨s_aln C0 (d_L_hollow_0) (hgq rfl) (s_ic C0 (d_L_hollow_1) (hgq rfl) (s_aln C0 (d_L_hollow_2) (hgq rfl) (s_iln C0 (d_L_hollow_3) (hgq rfl) (s_callVh C0 hE ht (goes_A hE rfl ⟨by decide, by decide⟩ wg555 fc2) (c_X10_hollow l hl0) wg1138 wg1135 wg1136 wg1137 wg1 ⟨by decide, by decide⟩ (by decide +kernel) (c0 := 10) rfl ⟨by decide, by decide⟩ ⟨by decide, by decide⟩ (d_L_hollow_4) ⟨by decide, by decide⟩ ⟨by decide, by decide⟩ (fun _ _ _ _ h => h) (s_i2l C0 (d_L_hollow_7) (hgq rfl) (s_lax C0 (d_L_hollow_8) (hgq rfl) (s_goto C0 (tgt := 15) (d_L_hollow_9) (by decide) (hgq rfl) (fun _ _ _ h => h))))))) (okn rfl)),
  s_asn C0 (d_L_hollow_12) (hgq rfl) (s_ic C0 (d_L_hollow_13) (hgq rfl) (s_ri C0 hr (d_L_hollow_14) ⟨by decide, by decide⟩) (okn rfl)),
  s_ic C0 (d_L_hollow_15) (hgq rfl) (s_ri C0 hr (d_L_hollow_16) ⟨by decide, by decide⟩) (okn rfl)⟩
theorem c_L_hollow (l : Launch) (hl0 : l.stackTraces = false) : CtrH l yL_hollow cL_hollow 4 (some .int) [(0, 9, 12, 13)] 15 312 1 (fun sx => (nf G_L_hollow)) := ctrH_of (by decide) (gl [(4, 1)]) (gl6 [(4, 1)]) ⟨rfl, rfl⟩ (fun p e s m args below meth c D ca ad sx sy A Q as M C0 hE hr hno hF => P_L_hollow (L_L_hollow hl0 C0 hE hr hno) hF)
theorem wg1015 : Cond.code ⟨"WeighedHall", "least", "(II)I"⟩ prog_1_method_16_code 3 (Option.some .int) ∈ GT := gt_mem 1135 (by decide +kernel) rfl
theorem wg1012 : Cond.methodLink "WeighedHallLaw" 52 ⟨"WeighedHall", "least", "(II)I"⟩ ∈ GT := gt_mem 1132 (by decide +kernel) rfl
theorem wg1013 : Cond.instanceMethod ⟨"WeighedHall", "least", "(II)I"⟩ ∈ GT := gt_mem 1133 (by decide +kernel) rfl
theorem wg1014 : Cond.selects "WeighedHall" ⟨"WeighedHall", "least", "(II)I"⟩ ⟨"WeighedHall", "least", "(II)I"⟩ ∈ GT := gt_mem 1134 (by decide +kernel) rfl
theorem d_L_least_0 : decode cL_least 0 = .ok (.aload_n 3, 1) := by decide +kernel
theorem d_L_least_1 : decode cL_least 1 = .ok (.iconst 0, 1) := by decide +kernel
theorem d_L_least_2 : decode cL_least 2 = .ok (.aload_n 0, 1) := by decide +kernel
theorem d_L_least_3 : decode cL_least 3 = .ok (.iload_n 1, 1) := by decide +kernel
theorem d_L_least_4 : decode cL_least 4 = .ok (.iload_n 2, 1) := by decide +kernel
theorem d_L_least_5 : decode cL_least 5 = .ok (.invokevirtual 52, 3) := by decide +kernel
theorem d_L_least_8 : decode cL_least 8 = .ok (.i2l, 1) := by decide +kernel
theorem d_L_least_9 : decode cL_least 9 = .ok (.lastore, 1) := by decide +kernel
theorem d_L_least_10 : decode cL_least 10 = .ok (.goto 11, 3) := by decide +kernel
theorem d_L_least_13 : decode cL_least 13 = .ok (.astore 4, 2) := by decide +kernel
theorem d_L_least_15 : decode cL_least 15 = .ok (.iconst 1, 1) := by decide +kernel
theorem d_L_least_16 : decode cL_least 16 = .ok (.ireturn, 1) := by decide +kernel
theorem d_L_least_17 : decode cL_least 17 = .ok (.astore 4, 2) := by decide +kernel
theorem d_L_least_19 : decode cL_least 19 = .ok (.iconst 2, 1) := by decide +kernel
theorem d_L_least_20 : decode cL_least 20 = .ok (.ireturn, 1) := by decide +kernel
theorem d_L_least_21 : decode cL_least 21 = .ok (.iconst 0, 1) := by decide +kernel
theorem d_L_least_22 : decode cL_least 22 = .ok (.ireturn, 1) := by decide +kernel
set_option maxRecDepth 100000 in
theorem L_L_least {p : Program} {l : Launch} {e : Env} {s : State} {m : MethodId} {args : Array Value} {below : List Frame} {meth : Method} {c : Code} {D : va_G} {ca : Nat → ClassId} {ad sx sy : Nat → Nat} {A : Nat → Prop} {Q : QT} (hl0 : l.stackTraces = false) (C0 : CX p s m args meth c cL_least 5 yL_least.cls D ca ad A) (hE : EX sx sy A s s.heap) (hr : meth.sig.returnType = (some .int)) (ht : c.exceptionTable.toList = tableOf [(0, 10, 13, 25), (0, 10, 17, 13)]) : R_L_least (JW p l e { frames := 17, cells := 2, slots := 6 * 2, locals := 358 } s m args below meth c 5 D ca ad A (vx_MQ below (Qn D ca ad A Q) (Qx D ca ad A Q) args s 2 (6 * 2) A) (gl [(5, 2)]) (gl6 [(5, 2)]) true) Q := ⟨s_aln C0 (d_L_least_0) (hgq rfl) (s_ic C0 (d_L_least_1) (hgq rfl) (s_aln C0 (d_L_least_2) (hgq rfl) (s_iln C0 (d_L_least_3) (hgq rfl) (s_iln C0 (d_L_least_4) (hgq rfl) (s_callVh C0 hE ht (goes_C hE rfl ⟨by decide, by decide⟩ ⟨by decide, by decide⟩ wg803 wg555 fc1 fc2) (c_X10_least l hl0) wg1015 wg1012 wg1013 wg1014 wg1 ⟨by decide, by decide⟩ (by decide +kernel) (c0 := 10) rfl ⟨by decide, by decide⟩ ⟨by decide, by decide⟩ (d_L_least_5) ⟨by decide, by decide⟩ ⟨by decide, by decide⟩ (fun _ _ _ _ h => h) (s_i2l C0 (d_L_least_8) (hgq rfl) (s_lax C0 (d_L_least_9) (hgq rfl) (s_goto C0 (tgt := 21) (d_L_least_10) (by decide) (hgq rfl) (fun _ _ _ h => h)))))))) (okn rfl)),
  s_as C0 (d_L_least_13) (hgq rfl) (s_ic C0 (d_L_least_15) (hgq rfl) (s_ri C0 hr (d_L_least_16) ⟨by decide, by decide⟩) (okn rfl)),
  s_as C0 (d_L_least_17) (hgq rfl) (s_ic C0 (d_L_least_19) (hgq rfl) (s_ri C0 hr (d_L_least_20) ⟨by decide, by decide⟩) (okn rfl)),
  s_ic C0 (d_L_least_21) (hgq rfl) (s_ri C0 hr (d_L_least_22) ⟨by decide, by decide⟩) (okn rfl)⟩
theorem c_L_least (l : Launch) (hl0 : l.stackTraces = false) : CtrH l yL_least cL_least 5 (some .int) [(0, 10, 13, 25), (0, 10, 17, 13)] 17 358 2 (fun sx => (nf G_L_least)) := ctrH_of (by decide) (gl [(5, 2)]) (gl6 [(5, 2)]) ⟨rfl, rfl⟩ (fun p e s m args below meth c D ca ad sx sy A Q as M C0 hE hr hno hF => P_L_least (L_L_least hl0 C0 hE hr hno) hF)
theorem wg772 : Cond.code ⟨"WeighedHall", "lend", "(I)I"⟩ prog_1_method_4_code 3 (Option.some .int) ∈ GT := gt_mem 892 (by decide +kernel) rfl
theorem wg769 : Cond.methodLink "WeighedHallLaw" 15 ⟨"WeighedHall", "lend", "(I)I"⟩ ∈ GT := gt_mem 889 (by decide +kernel) rfl
theorem wg770 : Cond.instanceMethod ⟨"WeighedHall", "lend", "(I)I"⟩ ∈ GT := gt_mem 890 (by decide +kernel) rfl
theorem wg771 : Cond.selects "WeighedHall" ⟨"WeighedHall", "lend", "(I)I"⟩ ⟨"WeighedHall", "lend", "(I)I"⟩ ∈ GT := gt_mem 891 (by decide +kernel) rfl
theorem d_L_lend_0 : decode cL_lend 0 = .ok (.aload_n 2, 1) := by decide +kernel
theorem d_L_lend_1 : decode cL_lend 1 = .ok (.iconst 0, 1) := by decide +kernel
theorem d_L_lend_2 : decode cL_lend 2 = .ok (.aload_n 0, 1) := by decide +kernel
theorem d_L_lend_3 : decode cL_lend 3 = .ok (.iload_n 1, 1) := by decide +kernel
theorem d_L_lend_4 : decode cL_lend 4 = .ok (.invokevirtual 15, 3) := by decide +kernel
theorem d_L_lend_7 : decode cL_lend 7 = .ok (.i2l, 1) := by decide +kernel
theorem d_L_lend_8 : decode cL_lend 8 = .ok (.lastore, 1) := by decide +kernel
theorem d_L_lend_9 : decode cL_lend 9 = .ok (.goto 6, 3) := by decide +kernel
theorem d_L_lend_12 : decode cL_lend 12 = .ok (.astore_n 3, 1) := by decide +kernel
theorem d_L_lend_13 : decode cL_lend 13 = .ok (.iconst 1, 1) := by decide +kernel
theorem d_L_lend_14 : decode cL_lend 14 = .ok (.ireturn, 1) := by decide +kernel
theorem d_L_lend_15 : decode cL_lend 15 = .ok (.iconst 0, 1) := by decide +kernel
theorem d_L_lend_16 : decode cL_lend 16 = .ok (.ireturn, 1) := by decide +kernel
set_option maxRecDepth 100000 in
theorem L_L_lend {p : Program} {l : Launch} {e : Env} {s : State} {m : MethodId} {args : Array Value} {below : List Frame} {meth : Method} {c : Code} {D : va_G} {ca : Nat → ClassId} {ad sx sy : Nat → Nat} {A : Nat → Prop} {Q : QT} (hl0 : l.stackTraces = false) (C0 : CX p s m args meth c cL_lend 4 yL_lend.cls D ca ad A) (hE : EX sx sy A s s.heap) (hr : meth.sig.returnType = (some .int)) (ht : c.exceptionTable.toList = tableOf [(0, 9, 12, 13)]) : R_L_lend (JW p l e { frames := 17, cells := 1, slots := 6 * 1, locals := 353 } s m args below meth c 4 D ca ad A (vx_MQ below (Qn D ca ad A Q) (Qx D ca ad A Q) args s 1 (6 * 1) A) (gl [(4, 1)]) (gl6 [(4, 1)]) true) Q := ⟨s_aln C0 (d_L_lend_0) (hgq rfl) (s_ic C0 (d_L_lend_1) (hgq rfl) (s_aln C0 (d_L_lend_2) (hgq rfl) (s_iln C0 (d_L_lend_3) (hgq rfl) (s_callVh C0 hE ht (goes_A hE rfl ⟨by decide, by decide⟩ wg555 fc2) (c_X10_lend l hl0) wg772 wg769 wg770 wg771 wg1 ⟨by decide, by decide⟩ (by decide +kernel) (c0 := 10) rfl ⟨by decide, by decide⟩ ⟨by decide, by decide⟩ (d_L_lend_4) ⟨by decide, by decide⟩ ⟨by decide, by decide⟩ (fun _ _ _ _ h => h) (s_i2l C0 (d_L_lend_7) (hgq rfl) (s_lax C0 (d_L_lend_8) (hgq rfl) (s_goto C0 (tgt := 15) (d_L_lend_9) (by decide) (hgq rfl) (fun _ _ _ h => h))))))) (okn rfl)),
  s_asn C0 (d_L_lend_12) (hgq rfl) (s_ic C0 (d_L_lend_13) (hgq rfl) (s_ri C0 hr (d_L_lend_14) ⟨by decide, by decide⟩) (okn rfl)),
  s_ic C0 (d_L_lend_15) (hgq rfl) (s_ri C0 hr (d_L_lend_16) ⟨by decide, by decide⟩) (okn rfl)⟩
theorem c_L_lend (l : Launch) (hl0 : l.stackTraces = false) : CtrH l yL_lend cL_lend 4 (some .int) [(0, 9, 12, 13)] 17 353 1 (fun sx => (nf G_L_lend)) := ctrH_of (by decide) (gl [(4, 1)]) (gl6 [(4, 1)]) ⟨rfl, rfl⟩ (fun p e s m args below meth c D ca ad sx sy A Q as M C0 hE hr hno hF => P_L_lend (L_L_lend hl0 C0 hE hr hno) hF)
theorem wg965 : Cond.code ⟨"WeighedHall", "motion", "(III)I"⟩ prog_1_method_12_code 4 (Option.some .int) ∈ GT := gt_mem 1085 (by decide +kernel) rfl
theorem wg962 : Cond.methodLink "WeighedHallLaw" 40 ⟨"WeighedHall", "motion", "(III)I"⟩ ∈ GT := gt_mem 1082 (by decide +kernel) rfl
theorem wg963 : Cond.instanceMethod ⟨"WeighedHall", "motion", "(III)I"⟩ ∈ GT := gt_mem 1083 (by decide +kernel) rfl
theorem wg964 : Cond.selects "WeighedHall" ⟨"WeighedHall", "motion", "(III)I"⟩ ⟨"WeighedHall", "motion", "(III)I"⟩ ∈ GT := gt_mem 1084 (by decide +kernel) rfl
theorem d_L_motion_0 : decode cL_motion 0 = .ok (.aload 4, 2) := by decide +kernel
theorem d_L_motion_2 : decode cL_motion 2 = .ok (.iconst 0, 1) := by decide +kernel
theorem d_L_motion_3 : decode cL_motion 3 = .ok (.aload_n 0, 1) := by decide +kernel
theorem d_L_motion_4 : decode cL_motion 4 = .ok (.iload_n 1, 1) := by decide +kernel
theorem d_L_motion_5 : decode cL_motion 5 = .ok (.iload_n 2, 1) := by decide +kernel
theorem d_L_motion_6 : decode cL_motion 6 = .ok (.iload_n 3, 1) := by decide +kernel
theorem d_L_motion_7 : decode cL_motion 7 = .ok (.invokevirtual 40, 3) := by decide +kernel
theorem d_L_motion_10 : decode cL_motion 10 = .ok (.i2l, 1) := by decide +kernel
theorem d_L_motion_11 : decode cL_motion 11 = .ok (.lastore, 1) := by decide +kernel
theorem d_L_motion_12 : decode cL_motion 12 = .ok (.goto 11, 3) := by decide +kernel
theorem d_L_motion_15 : decode cL_motion 15 = .ok (.astore 5, 2) := by decide +kernel
theorem d_L_motion_17 : decode cL_motion 17 = .ok (.iconst 1, 1) := by decide +kernel
theorem d_L_motion_18 : decode cL_motion 18 = .ok (.ireturn, 1) := by decide +kernel
theorem d_L_motion_19 : decode cL_motion 19 = .ok (.astore 5, 2) := by decide +kernel
theorem d_L_motion_21 : decode cL_motion 21 = .ok (.iconst 2, 1) := by decide +kernel
theorem d_L_motion_22 : decode cL_motion 22 = .ok (.ireturn, 1) := by decide +kernel
theorem d_L_motion_23 : decode cL_motion 23 = .ok (.iconst 0, 1) := by decide +kernel
theorem d_L_motion_24 : decode cL_motion 24 = .ok (.ireturn, 1) := by decide +kernel
set_option maxRecDepth 100000 in
theorem L_L_motion {p : Program} {l : Launch} {e : Env} {s : State} {m : MethodId} {args : Array Value} {below : List Frame} {meth : Method} {c : Code} {D : va_G} {ca : Nat → ClassId} {ad sx sy : Nat → Nat} {A : Nat → Prop} {Q : QT} (hl0 : l.stackTraces = false) (C0 : CX p s m args meth c cL_motion 6 yL_motion.cls D ca ad A) (hE : EX sx sy A s s.heap) (hr : meth.sig.returnType = (some .int)) (ht : c.exceptionTable.toList = tableOf [(0, 12, 15, 25), (0, 12, 19, 13)]) : R_L_motion (JW p l e { frames := 17, cells := 2, slots := 6 * 2, locals := 359 } s m args below meth c 6 D ca ad A (vx_MQ below (Qn D ca ad A Q) (Qx D ca ad A Q) args s 2 (6 * 2) A) (gl [(7, 2)]) (gl6 [(7, 2)]) true) Q := ⟨s_al C0 (d_L_motion_0) (hgq rfl) (s_ic C0 (d_L_motion_2) (hgq rfl) (s_aln C0 (d_L_motion_3) (hgq rfl) (s_iln C0 (d_L_motion_4) (hgq rfl) (s_iln C0 (d_L_motion_5) (hgq rfl) (s_iln C0 (d_L_motion_6) (hgq rfl) (s_callVh C0 hE ht (goes_C hE rfl ⟨by decide, by decide⟩ ⟨by decide, by decide⟩ wg803 wg555 fc1 fc2) (c_X10_motion l hl0) wg965 wg962 wg963 wg964 wg1 ⟨by decide, by decide⟩ (by decide +kernel) (c0 := 10) rfl ⟨by decide, by decide⟩ ⟨by decide, by decide⟩ (d_L_motion_7) ⟨by decide, by decide⟩ ⟨by decide, by decide⟩ (fun _ _ _ _ h => h) (s_i2l C0 (d_L_motion_10) (hgq rfl) (s_lax C0 (d_L_motion_11) (hgq rfl) (s_goto C0 (tgt := 23) (d_L_motion_12) (by decide) (hgq rfl) (fun _ _ _ h => h))))))))) (okn rfl)),
  s_as C0 (d_L_motion_15) (hgq rfl) (s_ic C0 (d_L_motion_17) (hgq rfl) (s_ri C0 hr (d_L_motion_18) ⟨by decide, by decide⟩) (okn rfl)),
  s_as C0 (d_L_motion_19) (hgq rfl) (s_ic C0 (d_L_motion_21) (hgq rfl) (s_ri C0 hr (d_L_motion_22) ⟨by decide, by decide⟩) (okn rfl)),
  s_ic C0 (d_L_motion_23) (hgq rfl) (s_ri C0 hr (d_L_motion_24) ⟨by decide, by decide⟩) (okn rfl)⟩
theorem c_L_motion (l : Launch) (hl0 : l.stackTraces = false) : CtrH l yL_motion cL_motion 6 (some .int) [(0, 12, 15, 25), (0, 12, 19, 13)] 17 359 2 (fun sx => (nf G_L_motion)) := ctrH_of (by decide) (gl [(7, 2)]) (gl6 [(7, 2)]) ⟨rfl, rfl⟩ (fun p e s m args below meth c D ca ad sx sy A Q as M C0 hE hr hno hF => P_L_motion (L_L_motion hl0 C0 hE hr hno) hF)
theorem wg1081 : Cond.code ⟨"WeighedHall", "owed", "(III)I"⟩ prog_1_method_21_code 6 (Option.some .int) ∈ GT := gt_mem 1201 (by decide +kernel) rfl
theorem wg1078 : Cond.methodLink "WeighedHallLaw" 65 ⟨"WeighedHall", "owed", "(III)I"⟩ ∈ GT := gt_mem 1198 (by decide +kernel) rfl
theorem wg1079 : Cond.instanceMethod ⟨"WeighedHall", "owed", "(III)I"⟩ ∈ GT := gt_mem 1199 (by decide +kernel) rfl
theorem wg1080 : Cond.selects "WeighedHall" ⟨"WeighedHall", "owed", "(III)I"⟩ ⟨"WeighedHall", "owed", "(III)I"⟩ ∈ GT := gt_mem 1200 (by decide +kernel) rfl
theorem d_L_owed_0 : decode cL_owed 0 = .ok (.aload 4, 2) := by decide +kernel
theorem d_L_owed_2 : decode cL_owed 2 = .ok (.iconst 0, 1) := by decide +kernel
theorem d_L_owed_3 : decode cL_owed 3 = .ok (.aload_n 0, 1) := by decide +kernel
theorem d_L_owed_4 : decode cL_owed 4 = .ok (.iload_n 1, 1) := by decide +kernel
theorem d_L_owed_5 : decode cL_owed 5 = .ok (.iload_n 2, 1) := by decide +kernel
theorem d_L_owed_6 : decode cL_owed 6 = .ok (.iload_n 3, 1) := by decide +kernel
theorem d_L_owed_7 : decode cL_owed 7 = .ok (.invokevirtual 65, 3) := by decide +kernel
theorem d_L_owed_10 : decode cL_owed 10 = .ok (.i2l, 1) := by decide +kernel
theorem d_L_owed_11 : decode cL_owed 11 = .ok (.lastore, 1) := by decide +kernel
theorem d_L_owed_12 : decode cL_owed 12 = .ok (.goto 7, 3) := by decide +kernel
theorem d_L_owed_15 : decode cL_owed 15 = .ok (.astore 5, 2) := by decide +kernel
theorem d_L_owed_17 : decode cL_owed 17 = .ok (.iconst 1, 1) := by decide +kernel
theorem d_L_owed_18 : decode cL_owed 18 = .ok (.ireturn, 1) := by decide +kernel
theorem d_L_owed_19 : decode cL_owed 19 = .ok (.iconst 0, 1) := by decide +kernel
theorem d_L_owed_20 : decode cL_owed 20 = .ok (.ireturn, 1) := by decide +kernel
set_option maxRecDepth 100000 in
theorem L_L_owed {p : Program} {l : Launch} {e : Env} {s : State} {m : MethodId} {args : Array Value} {below : List Frame} {meth : Method} {c : Code} {D : va_G} {ca : Nat → ClassId} {ad sx sy : Nat → Nat} {A : Nat → Prop} {Q : QT} (hl0 : l.stackTraces = false) (C0 : CX p s m args meth c cL_owed 6 yL_owed.cls D ca ad A) (hE : EX sx sy A s s.heap) (hr : meth.sig.returnType = (some .int)) (ht : c.exceptionTable.toList = tableOf [(0, 12, 15, 13)]) : R_L_owed (JW p l e { frames := 14, cells := 1, slots := 6 * 1, locals := 292 } s m args below meth c 6 D ca ad A (vx_MQ below (Qn D ca ad A Q) (Qx D ca ad A Q) args s 1 (6 * 1) A) (gl [(7, 1)]) (gl6 [(7, 1)]) true) Q := ⟨s_al C0 (d_L_owed_0) (hgq rfl) (s_ic C0 (d_L_owed_2) (hgq rfl) (s_aln C0 (d_L_owed_3) (hgq rfl) (s_iln C0 (d_L_owed_4) (hgq rfl) (s_iln C0 (d_L_owed_5) (hgq rfl) (s_iln C0 (d_L_owed_6) (hgq rfl) (s_callVh C0 hE ht (goes_A hE rfl ⟨by decide, by decide⟩ wg555 fc2) (c_X10_owed l hl0) wg1081 wg1078 wg1079 wg1080 wg1 ⟨by decide, by decide⟩ (by decide +kernel) (c0 := 10) rfl ⟨by decide, by decide⟩ ⟨by decide, by decide⟩ (d_L_owed_7) ⟨by decide, by decide⟩ ⟨by decide, by decide⟩ (fun _ _ _ _ h => h) (s_i2l C0 (d_L_owed_10) (hgq rfl) (s_lax C0 (d_L_owed_11) (hgq rfl) (s_goto C0 (tgt := 19) (d_L_owed_12) (by decide) (hgq rfl) (fun _ _ _ h => h))))))))) (okn rfl)),
  s_as C0 (d_L_owed_15) (hgq rfl) (s_ic C0 (d_L_owed_17) (hgq rfl) (s_ri C0 hr (d_L_owed_18) ⟨by decide, by decide⟩) (okn rfl)),
  s_ic C0 (d_L_owed_19) (hgq rfl) (s_ri C0 hr (d_L_owed_20) ⟨by decide, by decide⟩) (okn rfl)⟩
theorem c_L_owed (l : Launch) (hl0 : l.stackTraces = false) : CtrH l yL_owed cL_owed 6 (some .int) [(0, 12, 15, 13)] 14 292 1 (fun sx => (nf G_L_owed)) := ctrH_of (by decide) (gl [(7, 1)]) (gl6 [(7, 1)]) ⟨rfl, rfl⟩ (fun p e s m args below meth c D ca ad sx sy A Q as M C0 hE hr hno hF => P_L_owed (L_L_owed hl0 C0 hE hr hno) hF)
theorem wg988 : Cond.code ⟨"WeighedHall", "passes", "(I)I"⟩ prog_1_method_13_code 2 (Option.some .int) ∈ GT := gt_mem 1108 (by decide +kernel) rfl
theorem wg985 : Cond.methodLink "WeighedHallLaw" 43 ⟨"WeighedHall", "passes", "(I)I"⟩ ∈ GT := gt_mem 1105 (by decide +kernel) rfl
theorem wg986 : Cond.instanceMethod ⟨"WeighedHall", "passes", "(I)I"⟩ ∈ GT := gt_mem 1106 (by decide +kernel) rfl
theorem wg987 : Cond.selects "WeighedHall" ⟨"WeighedHall", "passes", "(I)I"⟩ ⟨"WeighedHall", "passes", "(I)I"⟩ ∈ GT := gt_mem 1107 (by decide +kernel) rfl
theorem d_L_passes_0 : decode cL_passes 0 = .ok (.aload_n 2, 1) := by decide +kernel
theorem d_L_passes_1 : decode cL_passes 1 = .ok (.iconst 0, 1) := by decide +kernel
theorem d_L_passes_2 : decode cL_passes 2 = .ok (.aload_n 0, 1) := by decide +kernel
theorem d_L_passes_3 : decode cL_passes 3 = .ok (.iload_n 1, 1) := by decide +kernel
theorem d_L_passes_4 : decode cL_passes 4 = .ok (.invokevirtual 43, 3) := by decide +kernel
theorem d_L_passes_7 : decode cL_passes 7 = .ok (.i2l, 1) := by decide +kernel
theorem d_L_passes_8 : decode cL_passes 8 = .ok (.lastore, 1) := by decide +kernel
theorem d_L_passes_9 : decode cL_passes 9 = .ok (.goto 6, 3) := by decide +kernel
theorem d_L_passes_12 : decode cL_passes 12 = .ok (.astore_n 3, 1) := by decide +kernel
theorem d_L_passes_13 : decode cL_passes 13 = .ok (.iconst 1, 1) := by decide +kernel
theorem d_L_passes_14 : decode cL_passes 14 = .ok (.ireturn, 1) := by decide +kernel
theorem d_L_passes_15 : decode cL_passes 15 = .ok (.iconst 0, 1) := by decide +kernel
theorem d_L_passes_16 : decode cL_passes 16 = .ok (.ireturn, 1) := by decide +kernel
set_option maxRecDepth 100000 in
theorem L_L_passes {p : Program} {l : Launch} {e : Env} {s : State} {m : MethodId} {args : Array Value} {below : List Frame} {meth : Method} {c : Code} {D : va_G} {ca : Nat → ClassId} {ad sx sy : Nat → Nat} {A : Nat → Prop} {Q : QT} (hl0 : l.stackTraces = false) (C0 : CX p s m args meth c cL_passes 4 yL_passes.cls D ca ad A) (hE : EX sx sy A s s.heap) (hr : meth.sig.returnType = (some .int)) (ht : c.exceptionTable.toList = tableOf [(0, 9, 12, 13)]) : R_L_passes (JW p l e { frames := 17, cells := 1, slots := 6 * 1, locals := 357 } s m args below meth c 4 D ca ad A (vx_MQ below (Qn D ca ad A Q) (Qx D ca ad A Q) args s 1 (6 * 1) A) (gl [(4, 1)]) (gl6 [(4, 1)]) true) Q := ⟨s_aln C0 (d_L_passes_0) (hgq rfl) (s_ic C0 (d_L_passes_1) (hgq rfl) (s_aln C0 (d_L_passes_2) (hgq rfl) (s_iln C0 (d_L_passes_3) (hgq rfl) (s_callVh C0 hE ht (goes_A hE rfl ⟨by decide, by decide⟩ wg555 fc2) (c_X10_passes l hl0) wg988 wg985 wg986 wg987 wg1 ⟨by decide, by decide⟩ (by decide +kernel) (c0 := 10) rfl ⟨by decide, by decide⟩ ⟨by decide, by decide⟩ (d_L_passes_4) ⟨by decide, by decide⟩ ⟨by decide, by decide⟩ (fun _ _ _ _ h => h) (s_i2l C0 (d_L_passes_7) (hgq rfl) (s_lax C0 (d_L_passes_8) (hgq rfl) (s_goto C0 (tgt := 15) (d_L_passes_9) (by decide) (hgq rfl) (fun _ _ _ h => h))))))) (okn rfl)),
  s_asn C0 (d_L_passes_12) (hgq rfl) (s_ic C0 (d_L_passes_13) (hgq rfl) (s_ri C0 hr (d_L_passes_14) ⟨by decide, by decide⟩) (okn rfl)),
  s_ic C0 (d_L_passes_15) (hgq rfl) (s_ri C0 hr (d_L_passes_16) ⟨by decide, by decide⟩) (okn rfl)⟩
theorem c_L_passes (l : Launch) (hl0 : l.stackTraces = false) : CtrH l yL_passes cL_passes 4 (some .int) [(0, 9, 12, 13)] 17 357 1 (fun sx => (nf G_L_passes)) := ctrH_of (by decide) (gl [(4, 1)]) (gl6 [(4, 1)]) ⟨rfl, rfl⟩ (fun p e s m args below meth c D ca ad sx sy A Q as M C0 hE hr hno hF => P_L_passes (L_L_passes hl0 C0 hE hr hno) hF)
theorem wg807 : Cond.code ⟨"WeighedHall", "person", "(II)I"⟩ prog_1_method_7_code 3 (Option.some .int) ∈ GT := gt_mem 927 (by decide +kernel) rfl
theorem wg804 : Cond.methodLink "WeighedHallLaw" 21 ⟨"WeighedHall", "person", "(II)I"⟩ ∈ GT := gt_mem 924 (by decide +kernel) rfl
theorem wg805 : Cond.instanceMethod ⟨"WeighedHall", "person", "(II)I"⟩ ∈ GT := gt_mem 925 (by decide +kernel) rfl
theorem wg806 : Cond.selects "WeighedHall" ⟨"WeighedHall", "person", "(II)I"⟩ ⟨"WeighedHall", "person", "(II)I"⟩ ∈ GT := gt_mem 926 (by decide +kernel) rfl
theorem d_L_person_0 : decode cL_person 0 = .ok (.aload_n 3, 1) := by decide +kernel
theorem d_L_person_1 : decode cL_person 1 = .ok (.iconst 0, 1) := by decide +kernel
theorem d_L_person_2 : decode cL_person 2 = .ok (.aload_n 0, 1) := by decide +kernel
theorem d_L_person_3 : decode cL_person 3 = .ok (.iload_n 1, 1) := by decide +kernel
theorem d_L_person_4 : decode cL_person 4 = .ok (.iload_n 2, 1) := by decide +kernel
theorem d_L_person_5 : decode cL_person 5 = .ok (.invokevirtual 21, 3) := by decide +kernel
theorem d_L_person_8 : decode cL_person 8 = .ok (.i2l, 1) := by decide +kernel
theorem d_L_person_9 : decode cL_person 9 = .ok (.lastore, 1) := by decide +kernel
theorem d_L_person_10 : decode cL_person 10 = .ok (.goto 11, 3) := by decide +kernel
theorem d_L_person_13 : decode cL_person 13 = .ok (.astore 4, 2) := by decide +kernel
theorem d_L_person_15 : decode cL_person 15 = .ok (.iconst 1, 1) := by decide +kernel
theorem d_L_person_16 : decode cL_person 16 = .ok (.ireturn, 1) := by decide +kernel
theorem d_L_person_17 : decode cL_person 17 = .ok (.astore 4, 2) := by decide +kernel
theorem d_L_person_19 : decode cL_person 19 = .ok (.iconst 2, 1) := by decide +kernel
theorem d_L_person_20 : decode cL_person 20 = .ok (.ireturn, 1) := by decide +kernel
theorem d_L_person_21 : decode cL_person 21 = .ok (.iconst 0, 1) := by decide +kernel
theorem d_L_person_22 : decode cL_person 22 = .ok (.ireturn, 1) := by decide +kernel
set_option maxRecDepth 100000 in
theorem L_L_person {p : Program} {l : Launch} {e : Env} {s : State} {m : MethodId} {args : Array Value} {below : List Frame} {meth : Method} {c : Code} {D : va_G} {ca : Nat → ClassId} {ad sx sy : Nat → Nat} {A : Nat → Prop} {Q : QT} (hl0 : l.stackTraces = false) (C0 : CX p s m args meth c cL_person 5 yL_person.cls D ca ad A) (hE : EX sx sy A s s.heap) (hr : meth.sig.returnType = (some .int)) (ht : c.exceptionTable.toList = tableOf [(0, 10, 13, 25), (0, 10, 17, 13)]) : R_L_person (JW p l e { frames := 12, cells := 2, slots := 6 * 2, locals := 245 } s m args below meth c 5 D ca ad A (vx_MQ below (Qn D ca ad A Q) (Qx D ca ad A Q) args s 2 (6 * 2) A) (gl [(5, 2)]) (gl6 [(5, 2)]) true) Q := ⟨s_aln C0 (d_L_person_0) (hgq rfl) (s_ic C0 (d_L_person_1) (hgq rfl) (s_aln C0 (d_L_person_2) (hgq rfl) (s_iln C0 (d_L_person_3) (hgq rfl) (s_iln C0 (d_L_person_4) (hgq rfl) (s_callVh C0 hE ht (goes_C hE rfl ⟨by decide, by decide⟩ ⟨by decide, by decide⟩ wg803 wg555 fc1 fc2) (c_X10_person l hl0) wg807 wg804 wg805 wg806 wg1 ⟨by decide, by decide⟩ (by decide +kernel) (c0 := 10) rfl ⟨by decide, by decide⟩ ⟨by decide, by decide⟩ (d_L_person_5) ⟨by decide, by decide⟩ ⟨by decide, by decide⟩ (fun _ _ _ _ h => h) (s_i2l C0 (d_L_person_8) (hgq rfl) (s_lax C0 (d_L_person_9) (hgq rfl) (s_goto C0 (tgt := 21) (d_L_person_10) (by decide) (hgq rfl) (fun _ _ _ h => h)))))))) (okn rfl)),
  s_as C0 (d_L_person_13) (hgq rfl) (s_ic C0 (d_L_person_15) (hgq rfl) (s_ri C0 hr (d_L_person_16) ⟨by decide, by decide⟩) (okn rfl)),
  s_as C0 (d_L_person_17) (hgq rfl) (s_ic C0 (d_L_person_19) (hgq rfl) (s_ri C0 hr (d_L_person_20) ⟨by decide, by decide⟩) (okn rfl)),
  s_ic C0 (d_L_person_21) (hgq rfl) (s_ri C0 hr (d_L_person_22) ⟨by decide, by decide⟩) (okn rfl)⟩
theorem c_L_person (l : Launch) (hl0 : l.stackTraces = false) : CtrH l yL_person cL_person 5 (some .int) [(0, 10, 13, 25), (0, 10, 17, 13)] 12 245 2 (fun sx => (nf G_L_person)) := ctrH_of (by decide) (gl [(5, 2)]) (gl6 [(5, 2)]) ⟨rfl, rfl⟩ (fun p e s m args below meth c D ca ad sx sy A Q as M C0 hE hr hno hF => P_L_person (L_L_person hl0 C0 hE hr hno) hF)
theorem wg942 : Cond.code ⟨"WeighedHall", "pounds", "(III)I"⟩ prog_1_method_10_code 4 (Option.some .int) ∈ GT := gt_mem 1062 (by decide +kernel) rfl
theorem wg939 : Cond.methodLink "WeighedHallLaw" 33 ⟨"WeighedHall", "pounds", "(III)I"⟩ ∈ GT := gt_mem 1059 (by decide +kernel) rfl
theorem wg940 : Cond.instanceMethod ⟨"WeighedHall", "pounds", "(III)I"⟩ ∈ GT := gt_mem 1060 (by decide +kernel) rfl
theorem wg941 : Cond.selects "WeighedHall" ⟨"WeighedHall", "pounds", "(III)I"⟩ ⟨"WeighedHall", "pounds", "(III)I"⟩ ∈ GT := gt_mem 1061 (by decide +kernel) rfl
theorem d_L_pounds_0 : decode cL_pounds 0 = .ok (.aload 4, 2) := by decide +kernel
theorem d_L_pounds_2 : decode cL_pounds 2 = .ok (.iconst 0, 1) := by decide +kernel
theorem d_L_pounds_3 : decode cL_pounds 3 = .ok (.aload_n 0, 1) := by decide +kernel
theorem d_L_pounds_4 : decode cL_pounds 4 = .ok (.iload_n 1, 1) := by decide +kernel
theorem d_L_pounds_5 : decode cL_pounds 5 = .ok (.iload_n 2, 1) := by decide +kernel
theorem d_L_pounds_6 : decode cL_pounds 6 = .ok (.iload_n 3, 1) := by decide +kernel
theorem d_L_pounds_7 : decode cL_pounds 7 = .ok (.invokevirtual 33, 3) := by decide +kernel
theorem d_L_pounds_10 : decode cL_pounds 10 = .ok (.i2l, 1) := by decide +kernel
theorem d_L_pounds_11 : decode cL_pounds 11 = .ok (.lastore, 1) := by decide +kernel
theorem d_L_pounds_12 : decode cL_pounds 12 = .ok (.goto 11, 3) := by decide +kernel
theorem d_L_pounds_15 : decode cL_pounds 15 = .ok (.astore 5, 2) := by decide +kernel
theorem d_L_pounds_17 : decode cL_pounds 17 = .ok (.iconst 1, 1) := by decide +kernel
theorem d_L_pounds_18 : decode cL_pounds 18 = .ok (.ireturn, 1) := by decide +kernel
theorem d_L_pounds_19 : decode cL_pounds 19 = .ok (.astore 5, 2) := by decide +kernel
theorem d_L_pounds_21 : decode cL_pounds 21 = .ok (.iconst 2, 1) := by decide +kernel
theorem d_L_pounds_22 : decode cL_pounds 22 = .ok (.ireturn, 1) := by decide +kernel
theorem d_L_pounds_23 : decode cL_pounds 23 = .ok (.iconst 0, 1) := by decide +kernel
theorem d_L_pounds_24 : decode cL_pounds 24 = .ok (.ireturn, 1) := by decide +kernel
set_option maxRecDepth 100000 in
theorem L_L_pounds {p : Program} {l : Launch} {e : Env} {s : State} {m : MethodId} {args : Array Value} {below : List Frame} {meth : Method} {c : Code} {D : va_G} {ca : Nat → ClassId} {ad sx sy : Nat → Nat} {A : Nat → Prop} {Q : QT} (hl0 : l.stackTraces = false) (C0 : CX p s m args meth c cL_pounds 6 yL_pounds.cls D ca ad A) (hE : EX sx sy A s s.heap) (hr : meth.sig.returnType = (some .int)) (ht : c.exceptionTable.toList = tableOf [(0, 12, 15, 25), (0, 12, 19, 13)]) : R_L_pounds (JW p l e { frames := 17, cells := 2, slots := 6 * 2, locals := 359 } s m args below meth c 6 D ca ad A (vx_MQ below (Qn D ca ad A Q) (Qx D ca ad A Q) args s 2 (6 * 2) A) (gl [(7, 2)]) (gl6 [(7, 2)]) true) Q := ⟨s_al C0 (d_L_pounds_0) (hgq rfl) (s_ic C0 (d_L_pounds_2) (hgq rfl) (s_aln C0 (d_L_pounds_3) (hgq rfl) (s_iln C0 (d_L_pounds_4) (hgq rfl) (s_iln C0 (d_L_pounds_5) (hgq rfl) (s_iln C0 (d_L_pounds_6) (hgq rfl) (s_callVh C0 hE ht (goes_C hE rfl ⟨by decide, by decide⟩ ⟨by decide, by decide⟩ wg803 wg555 fc1 fc2) (c_X10_pounds l hl0) wg942 wg939 wg940 wg941 wg1 ⟨by decide, by decide⟩ (by decide +kernel) (c0 := 10) rfl ⟨by decide, by decide⟩ ⟨by decide, by decide⟩ (d_L_pounds_7) ⟨by decide, by decide⟩ ⟨by decide, by decide⟩ (fun _ _ _ _ h => h) (s_i2l C0 (d_L_pounds_10) (hgq rfl) (s_lax C0 (d_L_pounds_11) (hgq rfl) (s_goto C0 (tgt := 23) (d_L_pounds_12) (by decide) (hgq rfl) (fun _ _ _ h => h))))))))) (okn rfl)),
  s_as C0 (d_L_pounds_15) (hgq rfl) (s_ic C0 (d_L_pounds_17) (hgq rfl) (s_ri C0 hr (d_L_pounds_18) ⟨by decide, by decide⟩) (okn rfl)),
  s_as C0 (d_L_pounds_19) (hgq rfl) (s_ic C0 (d_L_pounds_21) (hgq rfl) (s_ri C0 hr (d_L_pounds_22) ⟨by decide, by decide⟩) (okn rfl)),
  s_ic C0 (d_L_pounds_23) (hgq rfl) (s_ri C0 hr (d_L_pounds_24) ⟨by decide, by decide⟩) (okn rfl)⟩
theorem c_L_pounds (l : Launch) (hl0 : l.stackTraces = false) : CtrH l yL_pounds cL_pounds 6 (some .int) [(0, 12, 15, 25), (0, 12, 19, 13)] 17 359 2 (fun sx => (nf G_L_pounds)) := ctrH_of (by decide) (gl [(7, 2)]) (gl6 [(7, 2)]) ⟨rfl, rfl⟩ (fun p e s m args below meth c D ca ad sx sy A Q as M C0 hE hr hno hF => P_L_pounds (L_L_pounds hl0 C0 hE hr hno) hF)
theorem wg1066 : Cond.code ⟨"WeighedHall", "power", "(I)I"⟩ prog_1_method_18_code 2 (Option.some .int) ∈ GT := gt_mem 1186 (by decide +kernel) rfl
theorem wg1063 : Cond.methodLink "WeighedHallLaw" 58 ⟨"WeighedHall", "power", "(I)I"⟩ ∈ GT := gt_mem 1183 (by decide +kernel) rfl
theorem wg1064 : Cond.instanceMethod ⟨"WeighedHall", "power", "(I)I"⟩ ∈ GT := gt_mem 1184 (by decide +kernel) rfl
theorem wg1065 : Cond.selects "WeighedHall" ⟨"WeighedHall", "power", "(I)I"⟩ ⟨"WeighedHall", "power", "(I)I"⟩ ∈ GT := gt_mem 1185 (by decide +kernel) rfl
theorem d_L_power_0 : decode cL_power 0 = .ok (.aload_n 2, 1) := by decide +kernel
theorem d_L_power_1 : decode cL_power 1 = .ok (.iconst 0, 1) := by decide +kernel
theorem d_L_power_2 : decode cL_power 2 = .ok (.aload_n 0, 1) := by decide +kernel
theorem d_L_power_3 : decode cL_power 3 = .ok (.iload_n 1, 1) := by decide +kernel
theorem d_L_power_4 : decode cL_power 4 = .ok (.invokevirtual 58, 3) := by decide +kernel
theorem d_L_power_7 : decode cL_power 7 = .ok (.i2l, 1) := by decide +kernel
theorem d_L_power_8 : decode cL_power 8 = .ok (.lastore, 1) := by decide +kernel
theorem d_L_power_9 : decode cL_power 9 = .ok (.goto 6, 3) := by decide +kernel
theorem d_L_power_12 : decode cL_power 12 = .ok (.astore_n 3, 1) := by decide +kernel
theorem d_L_power_13 : decode cL_power 13 = .ok (.iconst 1, 1) := by decide +kernel
theorem d_L_power_14 : decode cL_power 14 = .ok (.ireturn, 1) := by decide +kernel
theorem d_L_power_15 : decode cL_power 15 = .ok (.iconst 0, 1) := by decide +kernel
theorem d_L_power_16 : decode cL_power 16 = .ok (.ireturn, 1) := by decide +kernel
set_option maxRecDepth 100000 in
theorem L_L_power {p : Program} {l : Launch} {e : Env} {s : State} {m : MethodId} {args : Array Value} {below : List Frame} {meth : Method} {c : Code} {D : va_G} {ca : Nat → ClassId} {ad sx sy : Nat → Nat} {A : Nat → Prop} {Q : QT} (hl0 : l.stackTraces = false) (C0 : CX p s m args meth c cL_power 4 yL_power.cls D ca ad A) (hE : EX sx sy A s s.heap) (hr : meth.sig.returnType = (some .int)) (ht : c.exceptionTable.toList = tableOf [(0, 9, 12, 25)]) : R_L_power (JW p l e { frames := 14, cells := 1, slots := 6 * 1, locals := 283 } s m args below meth c 4 D ca ad A (vx_MQ below (Qn D ca ad A Q) (Qx D ca ad A Q) args s 1 (6 * 1) A) (gl [(4, 1)]) (gl6 [(4, 1)]) true) Q := ⟨s_aln C0 (d_L_power_0) (hgq rfl) (s_ic C0 (d_L_power_1) (hgq rfl) (s_aln C0 (d_L_power_2) (hgq rfl) (s_iln C0 (d_L_power_3) (hgq rfl) (s_callVh C0 hE ht (goes_B hE rfl ⟨by decide, by decide⟩ wg803 fc1) (c_X10_power l hl0) wg1066 wg1063 wg1064 wg1065 wg1 ⟨by decide, by decide⟩ (by decide +kernel) (c0 := 10) rfl ⟨by decide, by decide⟩ ⟨by decide, by decide⟩ (d_L_power_4) ⟨by decide, by decide⟩ ⟨by decide, by decide⟩ (fun _ _ _ _ h => h) (s_i2l C0 (d_L_power_7) (hgq rfl) (s_lax C0 (d_L_power_8) (hgq rfl) (s_goto C0 (tgt := 15) (d_L_power_9) (by decide) (hgq rfl) (fun _ _ _ h => h))))))) (okn rfl)),
  s_asn C0 (d_L_power_12) (hgq rfl) (s_ic C0 (d_L_power_13) (hgq rfl) (s_ri C0 hr (d_L_power_14) ⟨by decide, by decide⟩) (okn rfl)),
  s_ic C0 (d_L_power_15) (hgq rfl) (s_ri C0 hr (d_L_power_16) ⟨by decide, by decide⟩) (okn rfl)⟩
theorem c_L_power (l : Launch) (hl0 : l.stackTraces = false) : CtrH l yL_power cL_power 4 (some .int) [(0, 9, 12, 25)] 14 283 1 (fun sx => (nf G_L_power)) := ctrH_of (by decide) (gl [(4, 1)]) (gl6 [(4, 1)]) ⟨rfl, rfl⟩ (fun p e s m args below meth c D ca ad sx sy A Q as M C0 hE hr hno hF => P_L_power (L_L_power hl0 C0 hE hr hno) hF)
theorem wg1190 : Cond.code ⟨"WeighedHall", "speech", "(II)Z"⟩ prog_1_method_28_code 5 (Option.some .boolean) ∈ GT := gt_mem 1310 (by decide +kernel) rfl
theorem wg1187 : Cond.methodLink "WeighedHallLaw" 80 ⟨"WeighedHall", "speech", "(II)Z"⟩ ∈ GT := gt_mem 1307 (by decide +kernel) rfl
theorem wg1188 : Cond.instanceMethod ⟨"WeighedHall", "speech", "(II)Z"⟩ ∈ GT := gt_mem 1308 (by decide +kernel) rfl
theorem wg1189 : Cond.selects "WeighedHall" ⟨"WeighedHall", "speech", "(II)Z"⟩ ⟨"WeighedHall", "speech", "(II)Z"⟩ ∈ GT := gt_mem 1309 (by decide +kernel) rfl
theorem d_L_speech_0 : decode cL_speech 0 = .ok (.aload_n 3, 1) := by decide +kernel
theorem d_L_speech_1 : decode cL_speech 1 = .ok (.iconst 0, 1) := by decide +kernel
theorem d_L_speech_2 : decode cL_speech 2 = .ok (.aload_n 0, 1) := by decide +kernel
theorem d_L_speech_3 : decode cL_speech 3 = .ok (.iload_n 1, 1) := by decide +kernel
theorem d_L_speech_4 : decode cL_speech 4 = .ok (.iload_n 2, 1) := by decide +kernel
theorem d_L_speech_5 : decode cL_speech 5 = .ok (.invokevirtual 80, 3) := by decide +kernel
theorem d_L_speech_8 : decode cL_speech 8 = .ok (.ifCond .eq 7, 3) := by decide +kernel
theorem d_L_speech_11 : decode cL_speech 11 = .ok (.lconst 1, 1) := by decide +kernel
theorem d_L_speech_12 : decode cL_speech 12 = .ok (.goto 4, 3) := by decide +kernel
theorem d_L_speech_15 : decode cL_speech 15 = .ok (.lconst 0, 1) := by decide +kernel
theorem d_L_speech_16 : decode cL_speech 16 = .ok (.lastore, 1) := by decide +kernel
theorem d_L_speech_17 : decode cL_speech 17 = .ok (.goto 11, 3) := by decide +kernel
theorem d_L_speech_20 : decode cL_speech 20 = .ok (.astore 4, 2) := by decide +kernel
theorem d_L_speech_22 : decode cL_speech 22 = .ok (.iconst 1, 1) := by decide +kernel
theorem d_L_speech_23 : decode cL_speech 23 = .ok (.ireturn, 1) := by decide +kernel
theorem d_L_speech_24 : decode cL_speech 24 = .ok (.astore 4, 2) := by decide +kernel
theorem d_L_speech_26 : decode cL_speech 26 = .ok (.iconst 2, 1) := by decide +kernel
theorem d_L_speech_27 : decode cL_speech 27 = .ok (.ireturn, 1) := by decide +kernel
theorem d_L_speech_28 : decode cL_speech 28 = .ok (.iconst 0, 1) := by decide +kernel
theorem d_L_speech_29 : decode cL_speech 29 = .ok (.ireturn, 1) := by decide +kernel
set_option maxRecDepth 100000 in
theorem L_L_speech {p : Program} {l : Launch} {e : Env} {s : State} {m : MethodId} {args : Array Value} {below : List Frame} {meth : Method} {c : Code} {D : va_G} {ca : Nat → ClassId} {ad sx sy : Nat → Nat} {A : Nat → Prop} {Q : QT} (hl0 : l.stackTraces = false) (C0 : CX p s m args meth c cL_speech 5 yL_speech.cls D ca ad A) (hE : EX sx sy A s s.heap) (hr : meth.sig.returnType = (some .int)) (ht : c.exceptionTable.toList = tableOf [(0, 17, 20, 25), (0, 17, 24, 13)]) : R_L_speech (JW p l e { frames := 16, cells := 2, slots := 6 * 2, locals := 339 } s m args below meth c 5 D ca ad A (vx_MQ below (Qn D ca ad A Q) (Qx D ca ad A Q) args s 2 (6 * 2) A) (gl [(5, 2)]) (gl6 [(5, 2)]) true) Q := ⟨s_aln C0 (d_L_speech_0) (hgq rfl) (s_ic C0 (d_L_speech_1) (hgq rfl) (s_aln C0 (d_L_speech_2) (hgq rfl) (s_iln C0 (d_L_speech_3) (hgq rfl) (s_iln C0 (d_L_speech_4) (hgq rfl) (s_callVh C0 hE ht (goes_C hE rfl ⟨by decide, by decide⟩ ⟨by decide, by decide⟩ wg803 wg555 fc1 fc2) (c_X10_speech l hl0) wg1190 wg1187 wg1188 wg1189 wg1 ⟨by decide, by decide⟩ (by decide +kernel) (c0 := 10) rfl ⟨by decide, by decide⟩ ⟨by decide, by decide⟩ (d_L_speech_5) ⟨by decide, by decide⟩ ⟨by decide, by decide⟩ (fun _ _ _ _ h => h) (s_zeq C0 (d_L_speech_8) (by decide) (hgq rfl) (hgq rfl) (fun _ _ _ h => h) (s_lcn C0 (d_L_speech_11) (hgq rfl) (s_goto C0 (tgt := 16) (d_L_speech_12) (by decide) (hgq rfl) (fun _ _ _ h => h)) rfl (okn2 rfl))))))) (okn rfl)),
  s_lcn C0 (d_L_speech_15) (hgq rfl) (fun _ _ _ h => h) rfl (okn2 rfl),
  s_lax C0 (d_L_speech_16) (hgq rfl) (s_goto C0 (tgt := 28) (d_L_speech_17) (by decide) (hgq rfl) (fun _ _ _ h => h)),
  s_as C0 (d_L_speech_20) (hgq rfl) (s_ic C0 (d_L_speech_22) (hgq rfl) (s_ri C0 hr (d_L_speech_23) ⟨by decide, by decide⟩) (okn rfl)),
  s_as C0 (d_L_speech_24) (hgq rfl) (s_ic C0 (d_L_speech_26) (hgq rfl) (s_ri C0 hr (d_L_speech_27) ⟨by decide, by decide⟩) (okn rfl)),
  s_ic C0 (d_L_speech_28) (hgq rfl) (s_ri C0 hr (d_L_speech_29) ⟨by decide, by decide⟩) (okn rfl)⟩
theorem c_L_speech (l : Launch) (hl0 : l.stackTraces = false) : CtrH l yL_speech cL_speech 5 (some .int) [(0, 17, 20, 25), (0, 17, 24, 13)] 16 339 2 (fun sx => (nf G_L_speech)) := ctrH_of (by decide) (gl [(5, 2)]) (gl6 [(5, 2)]) ⟨rfl, rfl⟩ (fun p e s m args below meth c D ca ad sx sy A Q as M C0 hE hr hno hF => P_L_speech (L_L_speech hl0 C0 hE hr hno) hF)
theorem wg958 : Cond.code ⟨"WeighedHall", "spent", "(I)I"⟩ prog_1_method_11_code 2 (Option.some .int) ∈ GT := gt_mem 1078 (by decide +kernel) rfl
theorem wg955 : Cond.methodLink "WeighedHallLaw" 37 ⟨"WeighedHall", "spent", "(I)I"⟩ ∈ GT := gt_mem 1075 (by decide +kernel) rfl
theorem wg956 : Cond.instanceMethod ⟨"WeighedHall", "spent", "(I)I"⟩ ∈ GT := gt_mem 1076 (by decide +kernel) rfl
theorem wg957 : Cond.selects "WeighedHall" ⟨"WeighedHall", "spent", "(I)I"⟩ ⟨"WeighedHall", "spent", "(I)I"⟩ ∈ GT := gt_mem 1077 (by decide +kernel) rfl
theorem d_L_spent_0 : decode cL_spent 0 = .ok (.aload_n 2, 1) := by decide +kernel
theorem d_L_spent_1 : decode cL_spent 1 = .ok (.iconst 0, 1) := by decide +kernel
theorem d_L_spent_2 : decode cL_spent 2 = .ok (.aload_n 0, 1) := by decide +kernel
theorem d_L_spent_3 : decode cL_spent 3 = .ok (.iload_n 1, 1) := by decide +kernel
theorem d_L_spent_4 : decode cL_spent 4 = .ok (.invokevirtual 37, 3) := by decide +kernel
theorem d_L_spent_7 : decode cL_spent 7 = .ok (.i2l, 1) := by decide +kernel
theorem d_L_spent_8 : decode cL_spent 8 = .ok (.lastore, 1) := by decide +kernel
theorem d_L_spent_9 : decode cL_spent 9 = .ok (.goto 6, 3) := by decide +kernel
theorem d_L_spent_12 : decode cL_spent 12 = .ok (.astore_n 3, 1) := by decide +kernel
theorem d_L_spent_13 : decode cL_spent 13 = .ok (.iconst 1, 1) := by decide +kernel
theorem d_L_spent_14 : decode cL_spent 14 = .ok (.ireturn, 1) := by decide +kernel
theorem d_L_spent_15 : decode cL_spent 15 = .ok (.iconst 0, 1) := by decide +kernel
theorem d_L_spent_16 : decode cL_spent 16 = .ok (.ireturn, 1) := by decide +kernel
set_option maxRecDepth 100000 in
theorem L_L_spent {p : Program} {l : Launch} {e : Env} {s : State} {m : MethodId} {args : Array Value} {below : List Frame} {meth : Method} {c : Code} {D : va_G} {ca : Nat → ClassId} {ad sx sy : Nat → Nat} {A : Nat → Prop} {Q : QT} (hl0 : l.stackTraces = false) (C0 : CX p s m args meth c cL_spent 4 yL_spent.cls D ca ad A) (hE : EX sx sy A s s.heap) (hr : meth.sig.returnType = (some .int)) (ht : c.exceptionTable.toList = tableOf [(0, 9, 12, 25)]) : R_L_spent (JW p l e { frames := 17, cells := 1, slots := 6 * 1, locals := 357 } s m args below meth c 4 D ca ad A (vx_MQ below (Qn D ca ad A Q) (Qx D ca ad A Q) args s 1 (6 * 1) A) (gl [(4, 1)]) (gl6 [(4, 1)]) true) Q := ⟨s_aln C0 (d_L_spent_0) (hgq rfl) (s_ic C0 (d_L_spent_1) (hgq rfl) (s_aln C0 (d_L_spent_2) (hgq rfl) (s_iln C0 (d_L_spent_3) (hgq rfl) (s_callVh C0 hE ht (goes_B hE rfl ⟨by decide, by decide⟩ wg803 fc1) (c_X10_spent l hl0) wg958 wg955 wg956 wg957 wg1 ⟨by decide, by decide⟩ (by decide +kernel) (c0 := 10) rfl ⟨by decide, by decide⟩ ⟨by decide, by decide⟩ (d_L_spent_4) ⟨by decide, by decide⟩ ⟨by decide, by decide⟩ (fun _ _ _ _ h => h) (s_i2l C0 (d_L_spent_7) (hgq rfl) (s_lax C0 (d_L_spent_8) (hgq rfl) (s_goto C0 (tgt := 15) (d_L_spent_9) (by decide) (hgq rfl) (fun _ _ _ h => h))))))) (okn rfl)),
  s_asn C0 (d_L_spent_12) (hgq rfl) (s_ic C0 (d_L_spent_13) (hgq rfl) (s_ri C0 hr (d_L_spent_14) ⟨by decide, by decide⟩) (okn rfl)),
  s_ic C0 (d_L_spent_15) (hgq rfl) (s_ri C0 hr (d_L_spent_16) ⟨by decide, by decide⟩) (okn rfl)⟩
theorem c_L_spent (l : Launch) (hl0 : l.stackTraces = false) : CtrH l yL_spent cL_spent 4 (some .int) [(0, 9, 12, 25)] 17 357 1 (fun sx => (nf G_L_spent)) := ctrH_of (by decide) (gl [(4, 1)]) (gl6 [(4, 1)]) ⟨rfl, rfl⟩ (fun p e s m args below meth c D ca ad sx sy A Q as M C0 hE hr hno hF => P_L_spent (L_L_spent hl0 C0 hE hr hno) hF)
theorem wg1007 : Cond.code ⟨"WeighedHall", "sums", "(II)I"⟩ prog_1_method_15_code 3 (Option.some .int) ∈ GT := gt_mem 1127 (by decide +kernel) rfl
theorem wg1004 : Cond.methodLink "WeighedHallLaw" 49 ⟨"WeighedHall", "sums", "(II)I"⟩ ∈ GT := gt_mem 1124 (by decide +kernel) rfl
theorem wg1005 : Cond.instanceMethod ⟨"WeighedHall", "sums", "(II)I"⟩ ∈ GT := gt_mem 1125 (by decide +kernel) rfl
theorem wg1006 : Cond.selects "WeighedHall" ⟨"WeighedHall", "sums", "(II)I"⟩ ⟨"WeighedHall", "sums", "(II)I"⟩ ∈ GT := gt_mem 1126 (by decide +kernel) rfl
theorem d_L_sums_0 : decode cL_sums 0 = .ok (.aload_n 3, 1) := by decide +kernel
theorem d_L_sums_1 : decode cL_sums 1 = .ok (.iconst 0, 1) := by decide +kernel
theorem d_L_sums_2 : decode cL_sums 2 = .ok (.aload_n 0, 1) := by decide +kernel
theorem d_L_sums_3 : decode cL_sums 3 = .ok (.iload_n 1, 1) := by decide +kernel
theorem d_L_sums_4 : decode cL_sums 4 = .ok (.iload_n 2, 1) := by decide +kernel
theorem d_L_sums_5 : decode cL_sums 5 = .ok (.invokevirtual 49, 3) := by decide +kernel
theorem d_L_sums_8 : decode cL_sums 8 = .ok (.i2l, 1) := by decide +kernel
theorem d_L_sums_9 : decode cL_sums 9 = .ok (.lastore, 1) := by decide +kernel
theorem d_L_sums_10 : decode cL_sums 10 = .ok (.goto 7, 3) := by decide +kernel
theorem d_L_sums_13 : decode cL_sums 13 = .ok (.astore 4, 2) := by decide +kernel
theorem d_L_sums_15 : decode cL_sums 15 = .ok (.iconst 1, 1) := by decide +kernel
theorem d_L_sums_16 : decode cL_sums 16 = .ok (.ireturn, 1) := by decide +kernel
theorem d_L_sums_17 : decode cL_sums 17 = .ok (.iconst 0, 1) := by decide +kernel
theorem d_L_sums_18 : decode cL_sums 18 = .ok (.ireturn, 1) := by decide +kernel
set_option maxRecDepth 100000 in
theorem L_L_sums {p : Program} {l : Launch} {e : Env} {s : State} {m : MethodId} {args : Array Value} {below : List Frame} {meth : Method} {c : Code} {D : va_G} {ca : Nat → ClassId} {ad sx sy : Nat → Nat} {A : Nat → Prop} {Q : QT} (hl0 : l.stackTraces = false) (C0 : CX p s m args meth c cL_sums 5 yL_sums.cls D ca ad A) (hE : EX sx sy A s s.heap) (hr : meth.sig.returnType = (some .int)) (ht : c.exceptionTable.toList = tableOf [(0, 10, 13, 13)]) : R_L_sums (JW p l e { frames := 17, cells := 1, slots := 6 * 1, locals := 358 } s m args below meth c 5 D ca ad A (vx_MQ below (Qn D ca ad A Q) (Qx D ca ad A Q) args s 1 (6 * 1) A) (gl [(5, 1)]) (gl6 [(5, 1)]) true) Q := ⟨s_aln C0 (d_L_sums_0) (hgq rfl) (s_ic C0 (d_L_sums_1) (hgq rfl) (s_aln C0 (d_L_sums_2) (hgq rfl) (s_iln C0 (d_L_sums_3) (hgq rfl) (s_iln C0 (d_L_sums_4) (hgq rfl) (s_callVh C0 hE ht (goes_A hE rfl ⟨by decide, by decide⟩ wg555 fc2) (c_X10_sums l hl0) wg1007 wg1004 wg1005 wg1006 wg1 ⟨by decide, by decide⟩ (by decide +kernel) (c0 := 10) rfl ⟨by decide, by decide⟩ ⟨by decide, by decide⟩ (d_L_sums_5) ⟨by decide, by decide⟩ ⟨by decide, by decide⟩ (fun _ _ _ _ h => h) (s_i2l C0 (d_L_sums_8) (hgq rfl) (s_lax C0 (d_L_sums_9) (hgq rfl) (s_goto C0 (tgt := 17) (d_L_sums_10) (by decide) (hgq rfl) (fun _ _ _ h => h)))))))) (okn rfl)),
  s_as C0 (d_L_sums_13) (hgq rfl) (s_ic C0 (d_L_sums_15) (hgq rfl) (s_ri C0 hr (d_L_sums_16) ⟨by decide, by decide⟩) (okn rfl)),
  s_ic C0 (d_L_sums_17) (hgq rfl) (s_ri C0 hr (d_L_sums_18) ⟨by decide, by decide⟩) (okn rfl)⟩
theorem c_L_sums (l : Launch) (hl0 : l.stackTraces = false) : CtrH l yL_sums cL_sums 5 (some .int) [(0, 10, 13, 13)] 17 358 1 (fun sx => (nf G_L_sums)) := ctrH_of (by decide) (gl [(5, 1)]) (gl6 [(5, 1)]) ⟨rfl, rfl⟩ (fun p e s m args below meth c D ca ad sx sy A Q as M C0 hE hr hno hF => P_L_sums (L_L_sums hl0 C0 hE hr hno) hF)
theorem wg839 : Cond.code ⟨"WeighedHall", "thing", "(II)I"⟩ prog_1_method_8_code 3 (Option.some .int) ∈ GT := gt_mem 959 (by decide +kernel) rfl
theorem wg836 : Cond.methodLink "WeighedHallLaw" 27 ⟨"WeighedHall", "thing", "(II)I"⟩ ∈ GT := gt_mem 956 (by decide +kernel) rfl
theorem wg837 : Cond.instanceMethod ⟨"WeighedHall", "thing", "(II)I"⟩ ∈ GT := gt_mem 957 (by decide +kernel) rfl
theorem wg838 : Cond.selects "WeighedHall" ⟨"WeighedHall", "thing", "(II)I"⟩ ⟨"WeighedHall", "thing", "(II)I"⟩ ∈ GT := gt_mem 958 (by decide +kernel) rfl
theorem d_L_thing_0 : decode cL_thing 0 = .ok (.aload_n 3, 1) := by decide +kernel
theorem d_L_thing_1 : decode cL_thing 1 = .ok (.iconst 0, 1) := by decide +kernel
theorem d_L_thing_2 : decode cL_thing 2 = .ok (.aload_n 0, 1) := by decide +kernel
theorem d_L_thing_3 : decode cL_thing 3 = .ok (.iload_n 1, 1) := by decide +kernel
theorem d_L_thing_4 : decode cL_thing 4 = .ok (.iload_n 2, 1) := by decide +kernel
theorem d_L_thing_5 : decode cL_thing 5 = .ok (.invokevirtual 27, 3) := by decide +kernel
theorem d_L_thing_8 : decode cL_thing 8 = .ok (.i2l, 1) := by decide +kernel
theorem d_L_thing_9 : decode cL_thing 9 = .ok (.lastore, 1) := by decide +kernel
theorem d_L_thing_10 : decode cL_thing 10 = .ok (.goto 11, 3) := by decide +kernel
theorem d_L_thing_13 : decode cL_thing 13 = .ok (.astore 4, 2) := by decide +kernel
theorem d_L_thing_15 : decode cL_thing 15 = .ok (.iconst 1, 1) := by decide +kernel
theorem d_L_thing_16 : decode cL_thing 16 = .ok (.ireturn, 1) := by decide +kernel
theorem d_L_thing_17 : decode cL_thing 17 = .ok (.astore 4, 2) := by decide +kernel
theorem d_L_thing_19 : decode cL_thing 19 = .ok (.iconst 2, 1) := by decide +kernel
theorem d_L_thing_20 : decode cL_thing 20 = .ok (.ireturn, 1) := by decide +kernel
theorem d_L_thing_21 : decode cL_thing 21 = .ok (.iconst 0, 1) := by decide +kernel
theorem d_L_thing_22 : decode cL_thing 22 = .ok (.ireturn, 1) := by decide +kernel
set_option maxRecDepth 100000 in
theorem L_L_thing {p : Program} {l : Launch} {e : Env} {s : State} {m : MethodId} {args : Array Value} {below : List Frame} {meth : Method} {c : Code} {D : va_G} {ca : Nat → ClassId} {ad sx sy : Nat → Nat} {A : Nat → Prop} {Q : QT} (hl0 : l.stackTraces = false) (C0 : CX p s m args meth c cL_thing 5 yL_thing.cls D ca ad A) (hE : EX sx sy A s s.heap) (hr : meth.sig.returnType = (some .int)) (ht : c.exceptionTable.toList = tableOf [(0, 10, 13, 25), (0, 10, 17, 13)]) : R_L_thing (JW p l e { frames := 17, cells := 2, slots := 6 * 2, locals := 358 } s m args below meth c 5 D ca ad A (vx_MQ below (Qn D ca ad A Q) (Qx D ca ad A Q) args s 2 (6 * 2) A) (gl [(5, 2)]) (gl6 [(5, 2)]) true) Q := ⟨s_aln C0 (d_L_thing_0) (hgq rfl) (s_ic C0 (d_L_thing_1) (hgq rfl) (s_aln C0 (d_L_thing_2) (hgq rfl) (s_iln C0 (d_L_thing_3) (hgq rfl) (s_iln C0 (d_L_thing_4) (hgq rfl) (s_callVh C0 hE ht (goes_C hE rfl ⟨by decide, by decide⟩ ⟨by decide, by decide⟩ wg803 wg555 fc1 fc2) (c_X10_thing l hl0) wg839 wg836 wg837 wg838 wg1 ⟨by decide, by decide⟩ (by decide +kernel) (c0 := 10) rfl ⟨by decide, by decide⟩ ⟨by decide, by decide⟩ (d_L_thing_5) ⟨by decide, by decide⟩ ⟨by decide, by decide⟩ (fun _ _ _ _ h => h) (s_i2l C0 (d_L_thing_8) (hgq rfl) (s_lax C0 (d_L_thing_9) (hgq rfl) (s_goto C0 (tgt := 21) (d_L_thing_10) (by decide) (hgq rfl) (fun _ _ _ h => h)))))))) (okn rfl)),
  s_as C0 (d_L_thing_13) (hgq rfl) (s_ic C0 (d_L_thing_15) (hgq rfl) (s_ri C0 hr (d_L_thing_16) ⟨by decide, by decide⟩) (okn rfl)),
  s_as C0 (d_L_thing_17) (hgq rfl) (s_ic C0 (d_L_thing_19) (hgq rfl) (s_ri C0 hr (d_L_thing_20) ⟨by decide, by decide⟩) (okn rfl)),
  s_ic C0 (d_L_thing_21) (hgq rfl) (s_ri C0 hr (d_L_thing_22) ⟨by decide, by decide⟩) (okn rfl)⟩
theorem c_L_thing (l : Launch) (hl0 : l.stackTraces = false) : CtrH l yL_thing cL_thing 5 (some .int) [(0, 10, 13, 25), (0, 10, 17, 13)] 17 358 2 (fun sx => (nf G_L_thing)) := ctrH_of (by decide) (gl [(5, 2)]) (gl6 [(5, 2)]) ⟨rfl, rfl⟩ (fun p e s m args below meth c D ca ad sx sy A Q as M C0 hE hr hno hF => P_L_thing (L_L_thing hl0 C0 hE hr hno) hF)
theorem wg1173 : Cond.code ⟨"WeighedHall", "tired", "(I)I"⟩ prog_1_method_27_code 5 (Option.some .int) ∈ GT := gt_mem 1293 (by decide +kernel) rfl
theorem wg1170 : Cond.methodLink "WeighedHallLaw" 77 ⟨"WeighedHall", "tired", "(I)I"⟩ ∈ GT := gt_mem 1290 (by decide +kernel) rfl
theorem wg1171 : Cond.instanceMethod ⟨"WeighedHall", "tired", "(I)I"⟩ ∈ GT := gt_mem 1291 (by decide +kernel) rfl
theorem wg1172 : Cond.selects "WeighedHall" ⟨"WeighedHall", "tired", "(I)I"⟩ ⟨"WeighedHall", "tired", "(I)I"⟩ ∈ GT := gt_mem 1292 (by decide +kernel) rfl
theorem d_L_tired_0 : decode cL_tired 0 = .ok (.aload_n 2, 1) := by decide +kernel
theorem d_L_tired_1 : decode cL_tired 1 = .ok (.iconst 0, 1) := by decide +kernel
theorem d_L_tired_2 : decode cL_tired 2 = .ok (.aload_n 0, 1) := by decide +kernel
theorem d_L_tired_3 : decode cL_tired 3 = .ok (.iload_n 1, 1) := by decide +kernel
theorem d_L_tired_4 : decode cL_tired 4 = .ok (.invokevirtual 77, 3) := by decide +kernel
theorem d_L_tired_7 : decode cL_tired 7 = .ok (.i2l, 1) := by decide +kernel
theorem d_L_tired_8 : decode cL_tired 8 = .ok (.lastore, 1) := by decide +kernel
theorem d_L_tired_9 : decode cL_tired 9 = .ok (.goto 6, 3) := by decide +kernel
theorem d_L_tired_12 : decode cL_tired 12 = .ok (.astore_n 3, 1) := by decide +kernel
theorem d_L_tired_13 : decode cL_tired 13 = .ok (.iconst 1, 1) := by decide +kernel
theorem d_L_tired_14 : decode cL_tired 14 = .ok (.ireturn, 1) := by decide +kernel
theorem d_L_tired_15 : decode cL_tired 15 = .ok (.iconst 0, 1) := by decide +kernel
theorem d_L_tired_16 : decode cL_tired 16 = .ok (.ireturn, 1) := by decide +kernel
set_option maxRecDepth 100000 in
theorem L_L_tired {p : Program} {l : Launch} {e : Env} {s : State} {m : MethodId} {args : Array Value} {below : List Frame} {meth : Method} {c : Code} {D : va_G} {ca : Nat → ClassId} {ad sx sy : Nat → Nat} {A : Nat → Prop} {Q : QT} (hl0 : l.stackTraces = false) (C0 : CX p s m args meth c cL_tired 4 yL_tired.cls D ca ad A) (hE : EX sx sy A s s.heap) (hr : meth.sig.returnType = (some .int)) (ht : c.exceptionTable.toList = tableOf [(0, 9, 12, 25)]) : R_L_tired (JW p l e { frames := 17, cells := 1, slots := 6 * 1, locals := 360 } s m args below meth c 4 D ca ad A (vx_MQ below (Qn D ca ad A Q) (Qx D ca ad A Q) args s 1 (6 * 1) A) (gl [(4, 1)]) (gl6 [(4, 1)]) true) Q := ⟨s_aln C0 (d_L_tired_0) (hgq rfl) (s_ic C0 (d_L_tired_1) (hgq rfl) (s_aln C0 (d_L_tired_2) (hgq rfl) (s_iln C0 (d_L_tired_3) (hgq rfl) (s_callVh C0 hE ht (goes_B hE rfl ⟨by decide, by decide⟩ wg803 fc1) (c_X10_tired l hl0) wg1173 wg1170 wg1171 wg1172 wg1 ⟨by decide, by decide⟩ (by decide +kernel) (c0 := 10) rfl ⟨by decide, by decide⟩ ⟨by decide, by decide⟩ (d_L_tired_4) ⟨by decide, by decide⟩ ⟨by decide, by decide⟩ (fun _ _ _ _ h => h) (s_i2l C0 (d_L_tired_7) (hgq rfl) (s_lax C0 (d_L_tired_8) (hgq rfl) (s_goto C0 (tgt := 15) (d_L_tired_9) (by decide) (hgq rfl) (fun _ _ _ h => h))))))) (okn rfl)),
  s_asn C0 (d_L_tired_12) (hgq rfl) (s_ic C0 (d_L_tired_13) (hgq rfl) (s_ri C0 hr (d_L_tired_14) ⟨by decide, by decide⟩) (okn rfl)),
  s_ic C0 (d_L_tired_15) (hgq rfl) (s_ri C0 hr (d_L_tired_16) ⟨by decide, by decide⟩) (okn rfl)⟩
theorem c_L_tired (l : Launch) (hl0 : l.stackTraces = false) : CtrH l yL_tired cL_tired 4 (some .int) [(0, 9, 12, 25)] 17 360 1 (fun sx => (nf G_L_tired)) := ctrH_of (by decide) (gl [(4, 1)]) (gl6 [(4, 1)]) ⟨rfl, rfl⟩ (fun p e s m args below meth c D ca ad sx sy A Q as M C0 hE hr hno hF => P_L_tired (L_L_tired hl0 C0 hE hr hno) hF)
theorem wg799 : Cond.code ⟨"WeighedHall", "told", "(I)I"⟩ prog_1_method_6_code 2 (Option.some .int) ∈ GT := gt_mem 919 (by decide +kernel) rfl
theorem wg796 : Cond.methodLink "WeighedHallLaw" 18 ⟨"WeighedHall", "told", "(I)I"⟩ ∈ GT := gt_mem 916 (by decide +kernel) rfl
theorem wg797 : Cond.instanceMethod ⟨"WeighedHall", "told", "(I)I"⟩ ∈ GT := gt_mem 917 (by decide +kernel) rfl
theorem wg798 : Cond.selects "WeighedHall" ⟨"WeighedHall", "told", "(I)I"⟩ ⟨"WeighedHall", "told", "(I)I"⟩ ∈ GT := gt_mem 918 (by decide +kernel) rfl
theorem d_L_told_0 : decode cL_told 0 = .ok (.aload_n 2, 1) := by decide +kernel
theorem d_L_told_1 : decode cL_told 1 = .ok (.iconst 0, 1) := by decide +kernel
theorem d_L_told_2 : decode cL_told 2 = .ok (.aload_n 0, 1) := by decide +kernel
theorem d_L_told_3 : decode cL_told 3 = .ok (.iload_n 1, 1) := by decide +kernel
theorem d_L_told_4 : decode cL_told 4 = .ok (.invokevirtual 18, 3) := by decide +kernel
theorem d_L_told_7 : decode cL_told 7 = .ok (.i2l, 1) := by decide +kernel
theorem d_L_told_8 : decode cL_told 8 = .ok (.lastore, 1) := by decide +kernel
theorem d_L_told_9 : decode cL_told 9 = .ok (.goto 6, 3) := by decide +kernel
theorem d_L_told_12 : decode cL_told 12 = .ok (.astore_n 3, 1) := by decide +kernel
theorem d_L_told_13 : decode cL_told 13 = .ok (.iconst 1, 1) := by decide +kernel
theorem d_L_told_14 : decode cL_told 14 = .ok (.ireturn, 1) := by decide +kernel
theorem d_L_told_15 : decode cL_told 15 = .ok (.iconst 0, 1) := by decide +kernel
theorem d_L_told_16 : decode cL_told 16 = .ok (.ireturn, 1) := by decide +kernel
set_option maxRecDepth 100000 in
theorem L_L_told {p : Program} {l : Launch} {e : Env} {s : State} {m : MethodId} {args : Array Value} {below : List Frame} {meth : Method} {c : Code} {D : va_G} {ca : Nat → ClassId} {ad sx sy : Nat → Nat} {A : Nat → Prop} {Q : QT} (hl0 : l.stackTraces = false) (C0 : CX p s m args meth c cL_told 4 yL_told.cls D ca ad A) (hE : EX sx sy A s s.heap) (hr : meth.sig.returnType = (some .int)) (ht : c.exceptionTable.toList = tableOf [(0, 9, 12, 13)]) : R_L_told (JW p l e { frames := 12, cells := 1, slots := 6 * 1, locals := 242 } s m args below meth c 4 D ca ad A (vx_MQ below (Qn D ca ad A Q) (Qx D ca ad A Q) args s 1 (6 * 1) A) (gl [(4, 1)]) (gl6 [(4, 1)]) true) Q := ⟨s_aln C0 (d_L_told_0) (hgq rfl) (s_ic C0 (d_L_told_1) (hgq rfl) (s_aln C0 (d_L_told_2) (hgq rfl) (s_iln C0 (d_L_told_3) (hgq rfl) (s_callVh C0 hE ht (goes_A hE rfl ⟨by decide, by decide⟩ wg555 fc2) (c_X10_told l hl0) wg799 wg796 wg797 wg798 wg1 ⟨by decide, by decide⟩ (by decide +kernel) (c0 := 10) rfl ⟨by decide, by decide⟩ ⟨by decide, by decide⟩ (d_L_told_4) ⟨by decide, by decide⟩ ⟨by decide, by decide⟩ (fun _ _ _ _ h => h) (s_i2l C0 (d_L_told_7) (hgq rfl) (s_lax C0 (d_L_told_8) (hgq rfl) (s_goto C0 (tgt := 15) (d_L_told_9) (by decide) (hgq rfl) (fun _ _ _ h => h))))))) (okn rfl)),
  s_asn C0 (d_L_told_12) (hgq rfl) (s_ic C0 (d_L_told_13) (hgq rfl) (s_ri C0 hr (d_L_told_14) ⟨by decide, by decide⟩) (okn rfl)),
  s_ic C0 (d_L_told_15) (hgq rfl) (s_ri C0 hr (d_L_told_16) ⟨by decide, by decide⟩) (okn rfl)⟩
theorem c_L_told (l : Launch) (hl0 : l.stackTraces = false) : CtrH l yL_told cL_told 4 (some .int) [(0, 9, 12, 13)] 12 242 1 (fun sx => (nf G_L_told)) := ctrH_of (by decide) (gl [(4, 1)]) (gl6 [(4, 1)]) ⟨rfl, rfl⟩ (fun p e s m args below meth c D ca ad sx sy A Q as M C0 hE hr hno hF => P_L_told (L_L_told hl0 C0 hE hr hno) hF)
theorem wg1000 : Cond.code ⟨"WeighedHall", "unlike", "(II)I"⟩ prog_1_method_14_code 3 (Option.some .int) ∈ GT := gt_mem 1120 (by decide +kernel) rfl
theorem wg997 : Cond.methodLink "WeighedHallLaw" 46 ⟨"WeighedHall", "unlike", "(II)I"⟩ ∈ GT := gt_mem 1117 (by decide +kernel) rfl
theorem wg998 : Cond.instanceMethod ⟨"WeighedHall", "unlike", "(II)I"⟩ ∈ GT := gt_mem 1118 (by decide +kernel) rfl
theorem wg999 : Cond.selects "WeighedHall" ⟨"WeighedHall", "unlike", "(II)I"⟩ ⟨"WeighedHall", "unlike", "(II)I"⟩ ∈ GT := gt_mem 1119 (by decide +kernel) rfl
theorem d_L_unlike_0 : decode cL_unlike 0 = .ok (.aload_n 3, 1) := by decide +kernel
theorem d_L_unlike_1 : decode cL_unlike 1 = .ok (.iconst 0, 1) := by decide +kernel
theorem d_L_unlike_2 : decode cL_unlike 2 = .ok (.aload_n 0, 1) := by decide +kernel
theorem d_L_unlike_3 : decode cL_unlike 3 = .ok (.iload_n 1, 1) := by decide +kernel
theorem d_L_unlike_4 : decode cL_unlike 4 = .ok (.iload_n 2, 1) := by decide +kernel
theorem d_L_unlike_5 : decode cL_unlike 5 = .ok (.invokevirtual 46, 3) := by decide +kernel
theorem d_L_unlike_8 : decode cL_unlike 8 = .ok (.i2l, 1) := by decide +kernel
theorem d_L_unlike_9 : decode cL_unlike 9 = .ok (.lastore, 1) := by decide +kernel
theorem d_L_unlike_10 : decode cL_unlike 10 = .ok (.goto 7, 3) := by decide +kernel
theorem d_L_unlike_13 : decode cL_unlike 13 = .ok (.astore 4, 2) := by decide +kernel
theorem d_L_unlike_15 : decode cL_unlike 15 = .ok (.iconst 1, 1) := by decide +kernel
theorem d_L_unlike_16 : decode cL_unlike 16 = .ok (.ireturn, 1) := by decide +kernel
theorem d_L_unlike_17 : decode cL_unlike 17 = .ok (.iconst 0, 1) := by decide +kernel
theorem d_L_unlike_18 : decode cL_unlike 18 = .ok (.ireturn, 1) := by decide +kernel
set_option maxRecDepth 100000 in
theorem L_L_unlike {p : Program} {l : Launch} {e : Env} {s : State} {m : MethodId} {args : Array Value} {below : List Frame} {meth : Method} {c : Code} {D : va_G} {ca : Nat → ClassId} {ad sx sy : Nat → Nat} {A : Nat → Prop} {Q : QT} (hl0 : l.stackTraces = false) (C0 : CX p s m args meth c cL_unlike 5 yL_unlike.cls D ca ad A) (hE : EX sx sy A s s.heap) (hr : meth.sig.returnType = (some .int)) (ht : c.exceptionTable.toList = tableOf [(0, 10, 13, 13)]) : R_L_unlike (JW p l e { frames := 17, cells := 1, slots := 6 * 1, locals := 358 } s m args below meth c 5 D ca ad A (vx_MQ below (Qn D ca ad A Q) (Qx D ca ad A Q) args s 1 (6 * 1) A) (gl [(5, 1)]) (gl6 [(5, 1)]) true) Q := ⟨s_aln C0 (d_L_unlike_0) (hgq rfl) (s_ic C0 (d_L_unlike_1) (hgq rfl) (s_aln C0 (d_L_unlike_2) (hgq rfl) (s_iln C0 (d_L_unlike_3) (hgq rfl) (s_iln C0 (d_L_unlike_4) (hgq rfl) (s_callVh C0 hE ht (goes_A hE rfl ⟨by decide, by decide⟩ wg555 fc2) (c_X10_unlike l hl0) wg1000 wg997 wg998 wg999 wg1 ⟨by decide, by decide⟩ (by decide +kernel) (c0 := 10) rfl ⟨by decide, by decide⟩ ⟨by decide, by decide⟩ (d_L_unlike_5) ⟨by decide, by decide⟩ ⟨by decide, by decide⟩ (fun _ _ _ _ h => h) (s_i2l C0 (d_L_unlike_8) (hgq rfl) (s_lax C0 (d_L_unlike_9) (hgq rfl) (s_goto C0 (tgt := 17) (d_L_unlike_10) (by decide) (hgq rfl) (fun _ _ _ h => h)))))))) (okn rfl)),
  s_as C0 (d_L_unlike_13) (hgq rfl) (s_ic C0 (d_L_unlike_15) (hgq rfl) (s_ri C0 hr (d_L_unlike_16) ⟨by decide, by decide⟩) (okn rfl)),
  s_ic C0 (d_L_unlike_17) (hgq rfl) (s_ri C0 hr (d_L_unlike_18) ⟨by decide, by decide⟩) (okn rfl)⟩
theorem c_L_unlike (l : Launch) (hl0 : l.stackTraces = false) : CtrH l yL_unlike cL_unlike 5 (some .int) [(0, 10, 13, 13)] 17 358 1 (fun sx => (nf G_L_unlike)) := ctrH_of (by decide) (gl [(5, 1)]) (gl6 [(5, 1)]) ⟨rfl, rfl⟩ (fun p e s m args below meth c D ca ad sx sy A Q as M C0 hE hr hno hF => P_L_unlike (L_L_unlike hl0 C0 hE hr hno) hF)
theorem wg1123 : Cond.code ⟨"WeighedHall", "vote", "(III)I"⟩ prog_1_method_24_code 4 (Option.some .int) ∈ GT := gt_mem 1243 (by decide +kernel) rfl
theorem wg1120 : Cond.methodLink "WeighedHallLaw" 71 ⟨"WeighedHall", "vote", "(III)I"⟩ ∈ GT := gt_mem 1240 (by decide +kernel) rfl
theorem wg1121 : Cond.instanceMethod ⟨"WeighedHall", "vote", "(III)I"⟩ ∈ GT := gt_mem 1241 (by decide +kernel) rfl
theorem wg1122 : Cond.selects "WeighedHall" ⟨"WeighedHall", "vote", "(III)I"⟩ ⟨"WeighedHall", "vote", "(III)I"⟩ ∈ GT := gt_mem 1242 (by decide +kernel) rfl
theorem d_L_vote_0 : decode cL_vote 0 = .ok (.aload 4, 2) := by decide +kernel
theorem d_L_vote_2 : decode cL_vote 2 = .ok (.iconst 0, 1) := by decide +kernel
theorem d_L_vote_3 : decode cL_vote 3 = .ok (.aload_n 0, 1) := by decide +kernel
theorem d_L_vote_4 : decode cL_vote 4 = .ok (.iload_n 1, 1) := by decide +kernel
theorem d_L_vote_5 : decode cL_vote 5 = .ok (.iload_n 2, 1) := by decide +kernel
theorem d_L_vote_6 : decode cL_vote 6 = .ok (.iload_n 3, 1) := by decide +kernel
theorem d_L_vote_7 : decode cL_vote 7 = .ok (.invokevirtual 71, 3) := by decide +kernel
theorem d_L_vote_10 : decode cL_vote 10 = .ok (.i2l, 1) := by decide +kernel
theorem d_L_vote_11 : decode cL_vote 11 = .ok (.lastore, 1) := by decide +kernel
theorem d_L_vote_12 : decode cL_vote 12 = .ok (.goto 7, 3) := by decide +kernel
theorem d_L_vote_15 : decode cL_vote 15 = .ok (.astore 5, 2) := by decide +kernel
theorem d_L_vote_17 : decode cL_vote 17 = .ok (.iconst 1, 1) := by decide +kernel
theorem d_L_vote_18 : decode cL_vote 18 = .ok (.ireturn, 1) := by decide +kernel
theorem d_L_vote_19 : decode cL_vote 19 = .ok (.iconst 0, 1) := by decide +kernel
theorem d_L_vote_20 : decode cL_vote 20 = .ok (.ireturn, 1) := by decide +kernel
set_option maxRecDepth 100000 in
theorem L_L_vote {p : Program} {l : Launch} {e : Env} {s : State} {m : MethodId} {args : Array Value} {below : List Frame} {meth : Method} {c : Code} {D : va_G} {ca : Nat → ClassId} {ad sx sy : Nat → Nat} {A : Nat → Prop} {Q : QT} (hl0 : l.stackTraces = false) (C0 : CX p s m args meth c cL_vote 6 yL_vote.cls D ca ad A) (hE : EX sx sy A s s.heap) (hr : meth.sig.returnType = (some .int)) (ht : c.exceptionTable.toList = tableOf [(0, 12, 15, 13)]) : R_L_vote (JW p l e { frames := 13, cells := 1, slots := 6 * 1, locals := 264 } s m args below meth c 6 D ca ad A (vx_MQ below (Qn D ca ad A Q) (Qx D ca ad A Q) args s 1 (6 * 1) A) (gl [(7, 1)]) (gl6 [(7, 1)]) true) Q := ⟨s_al C0 (d_L_vote_0) (hgq rfl) (s_ic C0 (d_L_vote_2) (hgq rfl) (s_aln C0 (d_L_vote_3) (hgq rfl) (s_iln C0 (d_L_vote_4) (hgq rfl) (s_iln C0 (d_L_vote_5) (hgq rfl) (s_iln C0 (d_L_vote_6) (hgq rfl) (s_callVh C0 hE ht (goes_A hE rfl ⟨by decide, by decide⟩ wg555 fc2) (c_X10_vote l hl0) wg1123 wg1120 wg1121 wg1122 wg1 ⟨by decide, by decide⟩ (by decide +kernel) (c0 := 10) rfl ⟨by decide, by decide⟩ ⟨by decide, by decide⟩ (d_L_vote_7) ⟨by decide, by decide⟩ ⟨by decide, by decide⟩ (fun _ _ _ _ h => h) (s_i2l C0 (d_L_vote_10) (hgq rfl) (s_lax C0 (d_L_vote_11) (hgq rfl) (s_goto C0 (tgt := 19) (d_L_vote_12) (by decide) (hgq rfl) (fun _ _ _ h => h))))))))) (okn rfl)),
  s_as C0 (d_L_vote_15) (hgq rfl) (s_ic C0 (d_L_vote_17) (hgq rfl) (s_ri C0 hr (d_L_vote_18) ⟨by decide, by decide⟩) (okn rfl)),
  s_ic C0 (d_L_vote_19) (hgq rfl) (s_ri C0 hr (d_L_vote_20) ⟨by decide, by decide⟩) (okn rfl)⟩
theorem c_L_vote (l : Launch) (hl0 : l.stackTraces = false) : CtrH l yL_vote cL_vote 6 (some .int) [(0, 12, 15, 13)] 13 264 1 (fun sx => (nf G_L_vote)) := ctrH_of (by decide) (gl [(7, 1)]) (gl6 [(7, 1)]) ⟨rfl, rfl⟩ (fun p e s m args below meth c D ca ad sx sy A Q as M C0 hE hr hno hF => P_L_vote (L_L_vote hl0 C0 hE hr hno) hF)
theorem wg1073 : Cond.code ⟨"WeighedHall", "wins", "(I)Z"⟩ prog_1_method_20_code 2 (Option.some .boolean) ∈ GT := gt_mem 1193 (by decide +kernel) rfl
theorem wg1070 : Cond.methodLink "WeighedHallLaw" 61 ⟨"WeighedHall", "wins", "(I)Z"⟩ ∈ GT := gt_mem 1190 (by decide +kernel) rfl
theorem wg1071 : Cond.instanceMethod ⟨"WeighedHall", "wins", "(I)Z"⟩ ∈ GT := gt_mem 1191 (by decide +kernel) rfl
theorem wg1072 : Cond.selects "WeighedHall" ⟨"WeighedHall", "wins", "(I)Z"⟩ ⟨"WeighedHall", "wins", "(I)Z"⟩ ∈ GT := gt_mem 1192 (by decide +kernel) rfl
theorem d_L_wins_0 : decode cL_wins 0 = .ok (.aload_n 2, 1) := by decide +kernel
theorem d_L_wins_1 : decode cL_wins 1 = .ok (.iconst 0, 1) := by decide +kernel
theorem d_L_wins_2 : decode cL_wins 2 = .ok (.aload_n 0, 1) := by decide +kernel
theorem d_L_wins_3 : decode cL_wins 3 = .ok (.iload_n 1, 1) := by decide +kernel
theorem d_L_wins_4 : decode cL_wins 4 = .ok (.invokevirtual 61, 3) := by decide +kernel
theorem d_L_wins_7 : decode cL_wins 7 = .ok (.ifCond .eq 7, 3) := by decide +kernel
theorem d_L_wins_10 : decode cL_wins 10 = .ok (.lconst 1, 1) := by decide +kernel
theorem d_L_wins_11 : decode cL_wins 11 = .ok (.goto 4, 3) := by decide +kernel
theorem d_L_wins_14 : decode cL_wins 14 = .ok (.lconst 0, 1) := by decide +kernel
theorem d_L_wins_15 : decode cL_wins 15 = .ok (.lastore, 1) := by decide +kernel
theorem d_L_wins_16 : decode cL_wins 16 = .ok (.goto 6, 3) := by decide +kernel
theorem d_L_wins_19 : decode cL_wins 19 = .ok (.astore_n 3, 1) := by decide +kernel
theorem d_L_wins_20 : decode cL_wins 20 = .ok (.iconst 1, 1) := by decide +kernel
theorem d_L_wins_21 : decode cL_wins 21 = .ok (.ireturn, 1) := by decide +kernel
theorem d_L_wins_22 : decode cL_wins 22 = .ok (.iconst 0, 1) := by decide +kernel
theorem d_L_wins_23 : decode cL_wins 23 = .ok (.ireturn, 1) := by decide +kernel
set_option maxRecDepth 100000 in
theorem L_L_wins {p : Program} {l : Launch} {e : Env} {s : State} {m : MethodId} {args : Array Value} {below : List Frame} {meth : Method} {c : Code} {D : va_G} {ca : Nat → ClassId} {ad sx sy : Nat → Nat} {A : Nat → Prop} {Q : QT} (hl0 : l.stackTraces = false) (C0 : CX p s m args meth c cL_wins 4 yL_wins.cls D ca ad A) (hE : EX sx sy A s s.heap) (hr : meth.sig.returnType = (some .int)) (ht : c.exceptionTable.toList = tableOf [(0, 16, 19, 13)]) : R_L_wins (JW p l e { frames := 13, cells := 1, slots := 6 * 1, locals := 267 } s m args below meth c 4 D ca ad A (vx_MQ below (Qn D ca ad A Q) (Qx D ca ad A Q) args s 1 (6 * 1) A) (gl [(4, 1)]) (gl6 [(4, 1)]) true) Q := ⟨s_aln C0 (d_L_wins_0) (hgq rfl) (s_ic C0 (d_L_wins_1) (hgq rfl) (s_aln C0 (d_L_wins_2) (hgq rfl) (s_iln C0 (d_L_wins_3) (hgq rfl) (s_callVh C0 hE ht (goes_A hE rfl ⟨by decide, by decide⟩ wg555 fc2) (c_X10_wins l hl0) wg1073 wg1070 wg1071 wg1072 wg1 ⟨by decide, by decide⟩ (by decide +kernel) (c0 := 10) rfl ⟨by decide, by decide⟩ ⟨by decide, by decide⟩ (d_L_wins_4) ⟨by decide, by decide⟩ ⟨by decide, by decide⟩ (fun _ _ _ _ h => h) (s_zeq C0 (d_L_wins_7) (by decide) (hgq rfl) (hgq rfl) (fun _ _ _ h => h) (s_lcn C0 (d_L_wins_10) (hgq rfl) (s_goto C0 (tgt := 15) (d_L_wins_11) (by decide) (hgq rfl) (fun _ _ _ h => h)) rfl (okn2 rfl)))))) (okn rfl)),
  s_lcn C0 (d_L_wins_14) (hgq rfl) (fun _ _ _ h => h) rfl (okn2 rfl),
  s_lax C0 (d_L_wins_15) (hgq rfl) (s_goto C0 (tgt := 22) (d_L_wins_16) (by decide) (hgq rfl) (fun _ _ _ h => h)),
  s_asn C0 (d_L_wins_19) (hgq rfl) (s_ic C0 (d_L_wins_20) (hgq rfl) (s_ri C0 hr (d_L_wins_21) ⟨by decide, by decide⟩) (okn rfl)),
  s_ic C0 (d_L_wins_22) (hgq rfl) (s_ri C0 hr (d_L_wins_23) ⟨by decide, by decide⟩) (okn rfl)⟩
theorem c_L_wins (l : Launch) (hl0 : l.stackTraces = false) : CtrH l yL_wins cL_wins 4 (some .int) [(0, 16, 19, 13)] 13 267 1 (fun sx => (nf G_L_wins)) := ctrH_of (by decide) (gl [(4, 1)]) (gl6 [(4, 1)]) ⟨rfl, rfl⟩ (fun p e s m args below meth c D ca ad sx sy A Q as M C0 hE hr hno hF => P_L_wins (L_L_wins hl0 C0 hE hr hno) hF)
