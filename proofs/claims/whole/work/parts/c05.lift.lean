theorem wn248 : Cond.fieldLinkNest "WeighedHall" 209 "WeighedHall$Sitting" "spentAt" "[I" "WeighedHall" ∈ NT := nt_mem 248 (by decide +kernel) rfl
theorem wn270 : Cond.fieldLinkNest "WeighedHall" 190 "WeighedHall$Chronicle" "sitting" "LWeighedHall$Sitting;" "WeighedHall" ∈ NT := nt_mem 270 (by decide +kernel) rfl
theorem d_X10_spent_0 : decode cX10_spent 0 = .ok (.aload_n 0, 1) := by decide +kernel
theorem d_X10_spent_1 : decode cX10_spent 1 = .ok (.aload_n 0, 1) := by decide +kernel
theorem d_X10_spent_2 : decode cX10_spent 2 = .ok (.getfield 19, 3) := by decide +kernel
theorem d_X10_spent_5 : decode cX10_spent 5 = .ok (.iload_n 1, 1) := by decide +kernel
theorem d_X10_spent_6 : decode cX10_spent 6 = .ok (.invokevirtual 156, 3) := by decide +kernel
theorem d_X10_spent_9 : decode cX10_spent 9 = .ok (.invokevirtual 160, 3) := by decide +kernel
theorem d_X10_spent_12 : decode cX10_spent 12 = .ok (.aload_n 0, 1) := by decide +kernel
theorem d_X10_spent_13 : decode cX10_spent 13 = .ok (.invokevirtual 186, 3) := by decide +kernel
theorem d_X10_spent_16 : decode cX10_spent 16 = .ok (.getfield 190, 3) := by decide +kernel
theorem d_X10_spent_19 : decode cX10_spent 19 = .ok (.getfield 209, 3) := by decide +kernel
theorem d_X10_spent_22 : decode cX10_spent 22 = .ok (.iload_n 1, 1) := by decide +kernel
theorem d_X10_spent_23 : decode cX10_spent 23 = .ok (.iaload, 1) := by decide +kernel
theorem d_X10_spent_24 : decode cX10_spent 24 = .ok (.ireturn, 1) := by decide +kernel
set_option maxRecDepth 100000 in
theorem L_X10_spent {p : Program} {l : Launch} {e : Env} {s : State} {m : MethodId} {args : Array Value} {below : List Frame} {meth : Method} {c : Code} {D : va_G} {ca : Nat → ClassId} {ad sx sy : Nat → Nat} {A : Nat → Prop} {Q : QT} (hl0 : l.stackTraces = false) (C0 : CX p s m args meth c cX10_spent 2 yX10_spent.cls D ca ad A) (hE : EX sx sy A s s.heap) (hr : meth.sig.returnType = (some .int)) (hno : ∀ x ∈ c.exceptionTable.toList, False) : R_X10_spent (JW p l e { frames := 16, cells := 1, slots := 6 * 1, locals := 336 } s m args below meth c 2 D ca ad A (vx_MQ below (Qn D ca ad A Q) (Qx D ca ad A Q) args s 1 (6 * 1) A) (gl [(9, 1)]) (gl6 [(9, 1)]) true) Q := s_aln C0 (d_X10_spent_0) (hgq rfl) (s_aln C0 (d_X10_spent_1) (hgq rfl) (s_gm C0 (j := 1) (c0 := 10) rfl gX10 (by decide) rfl rfl wg394 (d_X10_spent_2) (hgq rfl) (s_iln C0 (d_X10_spent_5) (hgq rfl) (s_callVN C0 hE (c_X6_hasPerson l) wg811 wn808 wg810 ws36 wg3 ⟨by decide, by decide⟩ (by decide +kernel) (c0 := 6) rfl ⟨by decide, by decide⟩ ⟨by decide, by decide⟩ (d_X10_spent_6) (fun x hx => (hno x hx).elim) ⟨by decide, by decide⟩ ⟨by decide, by decide⟩ (s_callV C0 hE (c_X10_needElement l hl0) wg815 wg812 wg814 ws37 wg1 ⟨by decide, by decide⟩ (by decide +kernel) (c0 := 10) rfl ⟨by decide, by decide⟩ ⟨by decide, by decide⟩ (d_X10_spent_9) (fun x hx => (hno x hx).elim) ⟨by decide, by decide⟩ ⟨by decide, by decide⟩ (s_aln C0 (d_X10_spent_12) (hgq rfl) (s_callV C0 hE (c_X10_chronicled l) wg844 wg841 wg843 ws38 wg1 ⟨by decide, by decide⟩ (by decide +kernel) (c0 := 10) rfl ⟨by decide, by decide⟩ ⟨by decide, by decide⟩ (d_X10_spent_13) (fun x hx => (hno x hx).elim) ⟨by decide, by decide⟩ ⟨by decide, by decide⟩ (s_grN C0 (j := 0) (c0 := 3) rfl gX3 (by decide) rfl rfl wn270 (d_X10_spent_16) (hgq rfl) (s_grN C0 (j := 7) (c0 := 8) rfl gX8 (by decide) rfl rfl wn248 (d_X10_spent_19) (hgq rfl) (s_iln C0 (d_X10_spent_22) (hgq rfl) (s_ia C0 (d_X10_spent_23) (hgq rfl) (s_ri C0 hr (d_X10_spent_24) ⟨by decide, by decide⟩))))))))))))
theorem c_X10_spent (l : Launch) (hl0 : l.stackTraces = false) : Ctr l yX10_spent cX10_spent 2 (some .int) 16 336 1 (fun sx => F_X10_spent) := ctr_of (by decide) (gl [(9, 1)]) (gl6 [(9, 1)]) ⟨rfl, rfl⟩ (fun p e s m args below meth c D ca ad sx sy A Q as M C0 hE hr hno hF => P_X10_spent (L_X10_spent hl0 C0 hE hr hno) hF)
theorem d_X10_status_0 : decode cX10_status 0 = .ok (.iload_n 1, 1) := by decide +kernel
theorem d_X10_status_1 : decode cX10_status 1 = .ok (.ifCond .ne 8, 3) := by decide +kernel
theorem d_X10_status_4 : decode cX10_status 4 = .ok (.aload_n 0, 1) := by decide +kernel
theorem d_X10_status_5 : decode cX10_status 5 = .ok (.getfield 335, 3) := by decide +kernel
theorem d_X10_status_8 : decode cX10_status 8 = .ok (.ireturn, 1) := by decide +kernel
theorem d_X10_status_9 : decode cX10_status 9 = .ok (.iload_n 1, 1) := by decide +kernel
theorem d_X10_status_10 : decode cX10_status 10 = .ok (.iconst 1, 1) := by decide +kernel
theorem d_X10_status_11 : decode cX10_status 11 = .ok (.if_icmp .ne 10, 3) := by decide +kernel
theorem d_X10_status_14 : decode cX10_status 14 = .ok (.aload_n 0, 1) := by decide +kernel
theorem d_X10_status_15 : decode cX10_status 15 = .ok (.getfield 338, 3) := by decide +kernel
theorem d_X10_status_18 : decode cX10_status 18 = .ok (.goto 4, 3) := by decide +kernel
theorem d_X10_status_21 : decode cX10_status 21 = .ok (.iconst (-1), 1) := by decide +kernel
theorem d_X10_status_22 : decode cX10_status 22 = .ok (.ireturn, 1) := by decide +kernel
set_option maxRecDepth 100000 in
theorem L_X10_status {p : Program} {l : Launch} {e : Env} {s : State} {m : MethodId} {args : Array Value} {below : List Frame} {meth : Method} {c : Code} {D : va_G} {ca : Nat → ClassId} {ad sx sy : Nat → Nat} {A : Nat → Prop} {Q : QT} (C0 : CX p s m args meth c cX10_status 2 yX10_status.cls D ca ad A) (hE : EX sx sy A s s.heap) (hr : meth.sig.returnType = (some .int)) (hno : ∀ x ∈ c.exceptionTable.toList, False) : R_X10_status (JW p l e { frames := 10, cells := 0, slots := 6 * 0, locals := 200 } s m args below meth c 2 D ca ad A (vx_MQ below (Qn D ca ad A Q) (Qx D ca ad A Q) args s 0 (6 * 0) A) gz gz true) Q := ⟨s_iln C0 (d_X10_status_0) hgz (s_zne C0 (d_X10_status_1) (by decide) hgz hgz (fun _ _ _ h => h) (s_aln C0 (d_X10_status_4) hgz (s_gi C0 (j := 16) (c0 := 10) rfl gX10 (by decide) rfl (by decide) wg409 (d_X10_status_5) hgz (s_ri C0 hr (d_X10_status_8) ⟨by decide, by decide⟩)))),
  s_iln C0 (d_X10_status_9) hgz (s_ic C0 (d_X10_status_10) hgz (s_cne C0 (d_X10_status_11) (by decide) hgz hgz (fun _ _ _ h => h) (s_aln C0 (d_X10_status_14) hgz (s_gi C0 (j := 17) (c0 := 10) rfl gX10 (by decide) rfl (by decide) wg410 (d_X10_status_15) hgz (s_goto C0 (tgt := 22) (d_X10_status_18) (by decide) hgz (fun _ _ _ h => h))))) (okn rfl)),
  s_ic C0 (d_X10_status_21) hgz (fun _ _ _ h => h) (okn rfl),
  s_ri C0 hr (d_X10_status_22) ⟨by decide, by decide⟩⟩
theorem c_X10_status (l : Launch) : Ctr l yX10_status cX10_status 2 (some .int) 10 200 0 (fun sx => (nf G_X10_status)) := ctr_of (by decide) gz gz ⟨rfl, rfl⟩ (fun p e s m args below meth c D ca ad sx sy A Q as M C0 hE hr hno hF => P_X10_status (L_X10_status C0 hE hr hno) hF)
theorem wn1008 : Cond.methodLinkNest "WeighedHall" 234 ⟨"WeighedHall$Plan", "allPounds", "()I"⟩ "WeighedHall" ∈ NT := nt_mem 1008 (by decide +kernel) rfl
theorem d_X10_sums_0 : decode cX10_sums 0 = .ok (.aload_n 0, 1) := by decide +kernel
theorem d_X10_sums_1 : decode cX10_sums 1 = .ok (.iload_n 1, 1) := by decide +kernel
theorem d_X10_sums_2 : decode cX10_sums 2 = .ok (.invokestatic 196, 3) := by decide +kernel
theorem d_X10_sums_5 : decode cX10_sums 5 = .ok (.ifCond .eq 16, 3) := by decide +kernel
theorem d_X10_sums_8 : decode cX10_sums 8 = .ok (.iload_n 2, 1) := by decide +kernel
theorem d_X10_sums_9 : decode cX10_sums 9 = .ok (.ifCond .lt 12, 3) := by decide +kernel
theorem d_X10_sums_12 : decode cX10_sums 12 = .ok (.iload_n 2, 1) := by decide +kernel
theorem d_X10_sums_13 : decode cX10_sums 13 = .ok (.iconst 2, 1) := by decide +kernel
theorem d_X10_sums_14 : decode cX10_sums 14 = .ok (.if_icmp .gt 7, 3) := by decide +kernel
theorem d_X10_sums_17 : decode cX10_sums 17 = .ok (.iconst 1, 1) := by decide +kernel
theorem d_X10_sums_18 : decode cX10_sums 18 = .ok (.goto 4, 3) := by decide +kernel
theorem d_X10_sums_21 : decode cX10_sums 21 = .ok (.iconst 0, 1) := by decide +kernel
theorem d_X10_sums_22 : decode cX10_sums 22 = .ok (.invokevirtual 104, 3) := by decide +kernel
theorem d_X10_sums_25 : decode cX10_sums 25 = .ok (.iload_n 2, 1) := by decide +kernel
theorem d_X10_sums_26 : decode cX10_sums 26 = .ok (.lookupswitch 65 #[(0, 26), (1, 36)], 26) := by decide +kernel
theorem d_X10_sums_52 : decode cX10_sums 52 = .ok (.aload_n 0, 1) := by decide +kernel
theorem d_X10_sums_53 : decode cX10_sums 53 = .ok (.invokevirtual 186, 3) := by decide +kernel
theorem d_X10_sums_56 : decode cX10_sums 56 = .ok (.iconst (-1), 1) := by decide +kernel
theorem d_X10_sums_57 : decode cX10_sums 57 = .ok (.iload_n 1, 1) := by decide +kernel
theorem d_X10_sums_58 : decode cX10_sums 58 = .ok (.invokevirtual 203, 3) := by decide +kernel
theorem d_X10_sums_61 : decode cX10_sums 61 = .ok (.ireturn, 1) := by decide +kernel
theorem d_X10_sums_62 : decode cX10_sums 62 = .ok (.aload_n 0, 1) := by decide +kernel
theorem d_X10_sums_63 : decode cX10_sums 63 = .ok (.getfield 19, 3) := by decide +kernel
theorem d_X10_sums_66 : decode cX10_sums 66 = .ok (.invokevirtual 234, 3) := by decide +kernel
theorem d_X10_sums_69 : decode cX10_sums 69 = .ok (.aload_n 0, 1) := by decide +kernel
theorem d_X10_sums_70 : decode cX10_sums 70 = .ok (.invokevirtual 186, 3) := by decide +kernel
theorem d_X10_sums_73 : decode cX10_sums 73 = .ok (.iconst (-1), 1) := by decide +kernel
theorem d_X10_sums_74 : decode cX10_sums 74 = .ok (.iload_n 1, 1) := by decide +kernel
theorem d_X10_sums_75 : decode cX10_sums 75 = .ok (.invokevirtual 203, 3) := by decide +kernel
theorem d_X10_sums_78 : decode cX10_sums 78 = .ok (.isub, 1) := by decide +kernel
theorem d_X10_sums_79 : decode cX10_sums 79 = .ok (.aload_n 0, 1) := by decide +kernel
theorem d_X10_sums_80 : decode cX10_sums 80 = .ok (.invokevirtual 186, 3) := by decide +kernel
theorem d_X10_sums_83 : decode cX10_sums 83 = .ok (.bipush (-2), 2) := by decide +kernel
theorem d_X10_sums_85 : decode cX10_sums 85 = .ok (.iload_n 1, 1) := by decide +kernel
theorem d_X10_sums_86 : decode cX10_sums 86 = .ok (.invokevirtual 203, 3) := by decide +kernel
theorem d_X10_sums_89 : decode cX10_sums 89 = .ok (.isub, 1) := by decide +kernel
theorem d_X10_sums_90 : decode cX10_sums 90 = .ok (.ireturn, 1) := by decide +kernel
theorem d_X10_sums_91 : decode cX10_sums 91 = .ok (.aload_n 0, 1) := by decide +kernel
theorem d_X10_sums_92 : decode cX10_sums 92 = .ok (.invokevirtual 186, 3) := by decide +kernel
theorem d_X10_sums_95 : decode cX10_sums 95 = .ok (.bipush (-2), 2) := by decide +kernel
theorem d_X10_sums_97 : decode cX10_sums 97 = .ok (.iload_n 1, 1) := by decide +kernel
theorem d_X10_sums_98 : decode cX10_sums 98 = .ok (.invokevirtual 203, 3) := by decide +kernel
theorem d_X10_sums_101 : decode cX10_sums 101 = .ok (.ireturn, 1) := by decide +kernel
set_option maxRecDepth 100000 in
theorem L_X10_sums {p : Program} {l : Launch} {e : Env} {s : State} {m : MethodId} {args : Array Value} {below : List Frame} {meth : Method} {c : Code} {D : va_G} {ca : Nat → ClassId} {ad sx sy : Nat → Nat} {A : Nat → Prop} {Q : QT} (hl0 : l.stackTraces = false) (C0 : CX p s m args meth c cX10_sums 3 yX10_sums.cls D ca ad A) (hE : EX sx sy A s s.heap) (hr : meth.sig.returnType = (some .int)) (hno : ∀ x ∈ c.exceptionTable.toList, False) : R_X10_sums (JW p l e { frames := 16, cells := 1, slots := 6 * 1, locals := 336 } s m args below meth c 3 D ca ad A (vx_MQ below (Qn D ca ad A Q) (Qx D ca ad A Q) args s 1 (6 * 1) A) (gl [(22, 1)]) (gl6 [(22, 1)]) true) Q := ⟨s_aln C0 (d_X10_sums_0) (hgq rfl) (s_iln C0 (d_X10_sums_1) (hgq rfl) (s_callS C0 hE (c_X10_isMinute l) wg931 wg929 wg930 wg1 ⟨by decide, by decide⟩ (by decide +kernel) ⟨by decide, by decide⟩ ⟨by decide, by decide⟩ (d_X10_sums_2) (fun x hx => (hno x hx).elim) ⟨by decide, by decide⟩ ⟨by decide, by decide⟩ (s_zeq C0 (d_X10_sums_5) (by decide) (hgq rfl) (hgq rfl) (fun _ _ _ h => h) (s_iln C0 (d_X10_sums_8) (hgq rfl) (s_zlt C0 (d_X10_sums_9) (by decide) (hgq rfl) (hgq rfl) (fun _ _ _ h => h) (s_iln C0 (d_X10_sums_12) (hgq rfl) (s_ic C0 (d_X10_sums_13) (hgq rfl) (s_cgt C0 (d_X10_sums_14) (by decide) (hgq rfl) (hgq rfl) (fun _ _ _ h => h) (s_ic C0 (d_X10_sums_17) (hgq rfl) (s_goto C0 (tgt := 22) (d_X10_sums_18) (by decide) (hgq rfl) (fun _ _ _ h => h)) (okn rfl))) (okn rfl)))))))),
  s_ic C0 (d_X10_sums_21) (hgq rfl) (fun _ _ _ h => h) (okn rfl),
  s_callV C0 hE (c_X10_needArgument l hl0) wg563 wg560 wg562 ws13 wg1 ⟨by decide, by decide⟩ (by decide +kernel) (c0 := 10) rfl ⟨by decide, by decide⟩ ⟨by decide, by decide⟩ (d_X10_sums_22) (fun x hx => (hno x hx).elim) ⟨by decide, by decide⟩ ⟨by decide, by decide⟩ (s_iln C0 (d_X10_sums_25) (hgq rfl) (s_look C0 (d_X10_sums_26) (by decide) (lk_X10_sums_26) (hgt rfl) (fun _ _ _ _ _ h => h))),
  s_aln C0 (d_X10_sums_52) (hgq rfl) (s_callV C0 hE (c_X10_chronicled l) wg844 wg841 wg843 ws38 wg1 ⟨by decide, by decide⟩ (by decide +kernel) (c0 := 10) rfl ⟨by decide, by decide⟩ ⟨by decide, by decide⟩ (d_X10_sums_53) (fun x hx => (hno x hx).elim) ⟨by decide, by decide⟩ ⟨by decide, by decide⟩ (s_ic C0 (d_X10_sums_56) (hgq rfl) (s_iln C0 (d_X10_sums_57) (hgq rfl) (s_callVN C0 hE (c_X3_poundsWith l) wg946 wn943 wg945 ws55 wg6 ⟨by decide, by decide⟩ (by decide +kernel) (c0 := 3) rfl ⟨by decide, by decide⟩ ⟨by decide, by decide⟩ (d_X10_sums_58) (fun x hx => (hno x hx).elim) ⟨by decide, by decide⟩ ⟨by decide, by decide⟩ (s_ri C0 hr (d_X10_sums_61) ⟨by decide, by decide⟩))) (okn rfl))),
  s_aln C0 (d_X10_sums_62) (hgq rfl) (s_gm C0 (j := 1) (c0 := 10) rfl gX10 (by decide) rfl rfl wg394 (d_X10_sums_63) (hgq rfl) (s_callVN C0 hE (c_X6_allPounds l) wg471 wn1008 wg470 ws2 wg3 ⟨by decide, by decide⟩ (by decide +kernel) (c0 := 6) rfl ⟨by decide, by decide⟩ ⟨by decide, by decide⟩ (d_X10_sums_66) (fun x hx => (hno x hx).elim) ⟨by decide, by decide⟩ ⟨by decide, by decide⟩ (s_aln C0 (d_X10_sums_69) (hgq rfl) (s_callV C0 hE (c_X10_chronicled l) wg844 wg841 wg843 ws38 wg1 ⟨by decide, by decide⟩ (by decide +kernel) (c0 := 10) rfl ⟨by decide, by decide⟩ ⟨by decide, by decide⟩ (d_X10_sums_70) (fun x hx => (hno x hx).elim) ⟨by decide, by decide⟩ ⟨by decide, by decide⟩ (s_ic C0 (d_X10_sums_73) (hgq rfl) (s_iln C0 (d_X10_sums_74) (hgq rfl) (s_callVN C0 hE (c_X3_poundsWith l) wg946 wn943 wg945 ws55 wg6 ⟨by decide, by decide⟩ (by decide +kernel) (c0 := 3) rfl ⟨by decide, by decide⟩ ⟨by decide, by decide⟩ (d_X10_sums_75) (fun x hx => (hno x hx).elim) ⟨by decide, by decide⟩ ⟨by decide, by decide⟩ (s_sub C0 (d_X10_sums_78) (hgq rfl) (s_aln C0 (d_X10_sums_79) (hgq rfl) (s_callV C0 hE (c_X10_chronicled l) wg844 wg841 wg843 ws38 wg1 ⟨by decide, by decide⟩ (by decide +kernel) (c0 := 10) rfl ⟨by decide, by decide⟩ ⟨by decide, by decide⟩ (d_X10_sums_80) (fun x hx => (hno x hx).elim) ⟨by decide, by decide⟩ ⟨by decide, by decide⟩ (s_bi C0 (d_X10_sums_83) (hgq rfl) (s_iln C0 (d_X10_sums_85) (hgq rfl) (s_callVN C0 hE (c_X3_poundsWith l) wg946 wn943 wg945 ws55 wg6 ⟨by decide, by decide⟩ (by decide +kernel) (c0 := 3) rfl ⟨by decide, by decide⟩ ⟨by decide, by decide⟩ (d_X10_sums_86) (fun x hx => (hno x hx).elim) ⟨by decide, by decide⟩ ⟨by decide, by decide⟩ (s_sub C0 (d_X10_sums_89) (hgq rfl) (s_ri C0 hr (d_X10_sums_90) ⟨by decide, by decide⟩)))) (okn rfl) rfl)))))) (okn rfl)))))),
  s_aln C0 (d_X10_sums_91) (hgq rfl) (s_callV C0 hE (c_X10_chronicled l) wg844 wg841 wg843 ws38 wg1 ⟨by decide, by decide⟩ (by decide +kernel) (c0 := 10) rfl ⟨by decide, by decide⟩ ⟨by decide, by decide⟩ (d_X10_sums_92) (fun x hx => (hno x hx).elim) ⟨by decide, by decide⟩ ⟨by decide, by decide⟩ (s_bi C0 (d_X10_sums_95) (hgq rfl) (s_iln C0 (d_X10_sums_97) (hgq rfl) (s_callVN C0 hE (c_X3_poundsWith l) wg946 wn943 wg945 ws55 wg6 ⟨by decide, by decide⟩ (by decide +kernel) (c0 := 3) rfl ⟨by decide, by decide⟩ ⟨by decide, by decide⟩ (d_X10_sums_98) (fun x hx => (hno x hx).elim) ⟨by decide, by decide⟩ ⟨by decide, by decide⟩ (s_ri C0 hr (d_X10_sums_101) ⟨by decide, by decide⟩))) (okn rfl) rfl))⟩
theorem c_X10_sums (l : Launch) (hl0 : l.stackTraces = false) : Ctr l yX10_sums cX10_sums 3 (some .int) 16 336 1 (fun sx => F_X10_sums) := ctr_of (by decide) (gl [(22, 1)]) (gl6 [(22, 1)]) ⟨rfl, rfl⟩ (fun p e s m args below meth c D ca ad sx sy A Q as M C0 hE hr hno hF => P_X10_sums (L_X10_sums hl0 C0 hE hr hno) hF)
theorem wn97 : Cond.fieldLinkNest "WeighedHall" 177 "WeighedHall$Plan" "owner" "[I" "WeighedHall" ∈ NT := nt_mem 97 (by decide +kernel) rfl
theorem wn102 : Cond.fieldLinkNest "WeighedHall" 180 "WeighedHall$Plan" "weight" "[I" "WeighedHall" ∈ NT := nt_mem 102 (by decide +kernel) rfl
theorem wn109 : Cond.fieldLinkNest "WeighedHall" 183 "WeighedHall$Plan" "door" "[I" "WeighedHall" ∈ NT := nt_mem 109 (by decide +kernel) rfl
theorem wn242 : Cond.fieldLinkNest "WeighedHall" 193 "WeighedHall$Sitting" "through" "[I" "WeighedHall" ∈ NT := nt_mem 242 (by decide +kernel) rfl
theorem d_X10_thing_0 : decode cX10_thing 0 = .ok (.aload_n 0, 1) := by decide +kernel
theorem d_X10_thing_1 : decode cX10_thing 1 = .ok (.aload_n 0, 1) := by decide +kernel
theorem d_X10_thing_2 : decode cX10_thing 2 = .ok (.getfield 19, 3) := by decide +kernel
theorem d_X10_thing_5 : decode cX10_thing 5 = .ok (.iload_n 1, 1) := by decide +kernel
theorem d_X10_thing_6 : decode cX10_thing 6 = .ok (.invokevirtual 174, 3) := by decide +kernel
theorem d_X10_thing_9 : decode cX10_thing 9 = .ok (.invokevirtual 160, 3) := by decide +kernel
theorem d_X10_thing_12 : decode cX10_thing 12 = .ok (.aload_n 0, 1) := by decide +kernel
theorem d_X10_thing_13 : decode cX10_thing 13 = .ok (.iload_n 2, 1) := by decide +kernel
theorem d_X10_thing_14 : decode cX10_thing 14 = .ok (.ifCond .lt 12, 3) := by decide +kernel
theorem d_X10_thing_17 : decode cX10_thing 17 = .ok (.iload_n 2, 1) := by decide +kernel
theorem d_X10_thing_18 : decode cX10_thing 18 = .ok (.iconst 3, 1) := by decide +kernel
theorem d_X10_thing_19 : decode cX10_thing 19 = .ok (.if_icmp .gt 7, 3) := by decide +kernel
theorem d_X10_thing_22 : decode cX10_thing 22 = .ok (.iconst 1, 1) := by decide +kernel
theorem d_X10_thing_23 : decode cX10_thing 23 = .ok (.goto 4, 3) := by decide +kernel
theorem d_X10_thing_26 : decode cX10_thing 26 = .ok (.iconst 0, 1) := by decide +kernel
theorem d_X10_thing_27 : decode cX10_thing 27 = .ok (.invokevirtual 104, 3) := by decide +kernel
theorem d_X10_thing_30 : decode cX10_thing 30 = .ok (.iload_n 2, 1) := by decide +kernel
theorem d_X10_thing_31 : decode cX10_thing 31 = .ok (.tableswitch 55 0 2 #[25, 35, 45], 25) := by decide +kernel
theorem d_X10_thing_56 : decode cX10_thing 56 = .ok (.aload_n 0, 1) := by decide +kernel
theorem d_X10_thing_57 : decode cX10_thing 57 = .ok (.getfield 19, 3) := by decide +kernel
theorem d_X10_thing_60 : decode cX10_thing 60 = .ok (.getfield 177, 3) := by decide +kernel
theorem d_X10_thing_63 : decode cX10_thing 63 = .ok (.iload_n 1, 1) := by decide +kernel
theorem d_X10_thing_64 : decode cX10_thing 64 = .ok (.iaload, 1) := by decide +kernel
theorem d_X10_thing_65 : decode cX10_thing 65 = .ok (.ireturn, 1) := by decide +kernel
theorem d_X10_thing_66 : decode cX10_thing 66 = .ok (.aload_n 0, 1) := by decide +kernel
theorem d_X10_thing_67 : decode cX10_thing 67 = .ok (.getfield 19, 3) := by decide +kernel
theorem d_X10_thing_70 : decode cX10_thing 70 = .ok (.getfield 180, 3) := by decide +kernel
theorem d_X10_thing_73 : decode cX10_thing 73 = .ok (.iload_n 1, 1) := by decide +kernel
theorem d_X10_thing_74 : decode cX10_thing 74 = .ok (.iaload, 1) := by decide +kernel
theorem d_X10_thing_75 : decode cX10_thing 75 = .ok (.ireturn, 1) := by decide +kernel
theorem d_X10_thing_76 : decode cX10_thing 76 = .ok (.aload_n 0, 1) := by decide +kernel
theorem d_X10_thing_77 : decode cX10_thing 77 = .ok (.getfield 19, 3) := by decide +kernel
theorem d_X10_thing_80 : decode cX10_thing 80 = .ok (.getfield 183, 3) := by decide +kernel
theorem d_X10_thing_83 : decode cX10_thing 83 = .ok (.iload_n 1, 1) := by decide +kernel
theorem d_X10_thing_84 : decode cX10_thing 84 = .ok (.iaload, 1) := by decide +kernel
theorem d_X10_thing_85 : decode cX10_thing 85 = .ok (.ireturn, 1) := by decide +kernel
theorem d_X10_thing_86 : decode cX10_thing 86 = .ok (.aload_n 0, 1) := by decide +kernel
theorem d_X10_thing_87 : decode cX10_thing 87 = .ok (.invokevirtual 186, 3) := by decide +kernel
theorem d_X10_thing_90 : decode cX10_thing 90 = .ok (.getfield 190, 3) := by decide +kernel
theorem d_X10_thing_93 : decode cX10_thing 93 = .ok (.getfield 193, 3) := by decide +kernel
theorem d_X10_thing_96 : decode cX10_thing 96 = .ok (.iload_n 1, 1) := by decide +kernel
theorem d_X10_thing_97 : decode cX10_thing 97 = .ok (.iaload, 1) := by decide +kernel
theorem d_X10_thing_98 : decode cX10_thing 98 = .ok (.ireturn, 1) := by decide +kernel
set_option maxRecDepth 100000 in
theorem L_X10_thing {p : Program} {l : Launch} {e : Env} {s : State} {m : MethodId} {args : Array Value} {below : List Frame} {meth : Method} {c : Code} {D : va_G} {ca : Nat → ClassId} {ad sx sy : Nat → Nat} {A : Nat → Prop} {Q : QT} (hl0 : l.stackTraces = false) (C0 : CX p s m args meth c cX10_thing 3 yX10_thing.cls D ca ad A) (hE : EX sx sy A s s.heap) (hr : meth.sig.returnType = (some .int)) (hno : ∀ x ∈ c.exceptionTable.toList, False) : R_X10_thing (JW p l e { frames := 16, cells := 2, slots := 6 * 2, locals := 336 } s m args below meth c 3 D ca ad A (vx_MQ below (Qn D ca ad A Q) (Qx D ca ad A Q) args s 2 (6 * 2) A) (gl [(9, 1), (27, 1)]) (gl6 [(9, 1), (27, 1)]) true) Q := ⟨s_aln C0 (d_X10_thing_0) (hgq rfl) (s_aln C0 (d_X10_thing_1) (hgq rfl) (s_gm C0 (j := 1) (c0 := 10) rfl gX10 (by decide) rfl rfl wg394 (d_X10_thing_2) (hgq rfl) (s_iln C0 (d_X10_thing_5) (hgq rfl) (s_callVN C0 hE (c_X6_hasThing l) wg791 wn840 wg790 ws35 wg3 ⟨by decide, by decide⟩ (by decide +kernel) (c0 := 6) rfl ⟨by decide, by decide⟩ ⟨by decide, by decide⟩ (d_X10_thing_6) (fun x hx => (hno x hx).elim) ⟨by decide, by decide⟩ ⟨by decide, by decide⟩ (s_callV C0 hE (c_X10_needElement l hl0) wg815 wg812 wg814 ws37 wg1 ⟨by decide, by decide⟩ (by decide +kernel) (c0 := 10) rfl ⟨by decide, by decide⟩ ⟨by decide, by decide⟩ (d_X10_thing_9) (fun x hx => (hno x hx).elim) ⟨by decide, by decide⟩ ⟨by decide, by decide⟩ (s_aln C0 (d_X10_thing_12) (hgq rfl) (s_iln C0 (d_X10_thing_13) (hgq rfl) (s_zlt C0 (d_X10_thing_14) (by decide) (hgq rfl) (hgq rfl) (fun _ _ _ h => h) (s_iln C0 (d_X10_thing_17) (hgq rfl) (s_ic C0 (d_X10_thing_18) (hgq rfl) (s_cgt C0 (d_X10_thing_19) (by decide) (hgq rfl) (hgq rfl) (fun _ _ _ h => h) (s_ic C0 (d_X10_thing_22) (hgq rfl) (s_goto C0 (tgt := 27) (d_X10_thing_23) (by decide) (hgq rfl) (fun _ _ _ h => h)) (okn rfl))) (okn rfl))))))))))),
  s_ic C0 (d_X10_thing_26) (hgq rfl) (fun _ _ _ h => h) (okn rfl),
  s_callV C0 hE (c_X10_needArgument l hl0) wg563 wg560 wg562 ws13 wg1 ⟨by decide, by decide⟩ (by decide +kernel) (c0 := 10) rfl ⟨by decide, by decide⟩ ⟨by decide, by decide⟩ (d_X10_thing_27) (fun x hx => (hno x hx).elim) ⟨by decide, by decide⟩ ⟨by decide, by decide⟩ (s_iln C0 (d_X10_thing_30) (hgq rfl) (s_tab C0 (d_X10_thing_31) (by decide) (by decide) (by decide) (by decide) (hgt rfl) (fun _ _ _ _ _ h => h))),
  s_aln C0 (d_X10_thing_56) (hgq rfl) (s_gm C0 (j := 1) (c0 := 10) rfl gX10 (by decide) rfl rfl wg394 (d_X10_thing_57) (hgq rfl) (s_grN C0 (j := 4) (c0 := 6) rfl gX6 (by decide) rfl rfl wn97 (d_X10_thing_60) (hgq rfl) (s_iln C0 (d_X10_thing_63) (hgq rfl) (s_ia C0 (d_X10_thing_64) (hgq rfl) (s_ri C0 hr (d_X10_thing_65) ⟨by decide, by decide⟩))))),
  s_aln C0 (d_X10_thing_66) (hgq rfl) (s_gm C0 (j := 1) (c0 := 10) rfl gX10 (by decide) rfl rfl wg394 (d_X10_thing_67) (hgq rfl) (s_grN C0 (j := 5) (c0 := 6) rfl gX6 (by decide) rfl rfl wn102 (d_X10_thing_70) (hgq rfl) (s_iln C0 (d_X10_thing_73) (hgq rfl) (s_ia C0 (d_X10_thing_74) (hgq rfl) (s_ri C0 hr (d_X10_thing_75) ⟨by decide, by decide⟩))))),
  s_aln C0 (d_X10_thing_76) (hgq rfl) (s_gm C0 (j := 1) (c0 := 10) rfl gX10 (by decide) rfl rfl wg394 (d_X10_thing_77) (hgq rfl) (s_grN C0 (j := 6) (c0 := 6) rfl gX6 (by decide) rfl rfl wn109 (d_X10_thing_80) (hgq rfl) (s_iln C0 (d_X10_thing_83) (hgq rfl) (s_ia C0 (d_X10_thing_84) (hgq rfl) (s_ri C0 hr (d_X10_thing_85) ⟨by decide, by decide⟩))))),
  s_aln C0 (d_X10_thing_86) (hgq rfl) (s_callV C0 hE (c_X10_chronicled l) wg844 wg841 wg843 ws38 wg1 ⟨by decide, by decide⟩ (by decide +kernel) (c0 := 10) rfl ⟨by decide, by decide⟩ ⟨by decide, by decide⟩ (d_X10_thing_87) (fun x hx => (hno x hx).elim) ⟨by decide, by decide⟩ ⟨by decide, by decide⟩ (s_grN C0 (j := 0) (c0 := 3) rfl gX3 (by decide) rfl rfl wn270 (d_X10_thing_90) (hgq rfl) (s_grN C0 (j := 3) (c0 := 8) rfl gX8 (by decide) rfl rfl wn242 (d_X10_thing_93) (hgq rfl) (s_iln C0 (d_X10_thing_96) (hgq rfl) (s_ia C0 (d_X10_thing_97) (hgq rfl) (s_ri C0 hr (d_X10_thing_98) ⟨by decide, by decide⟩))))))⟩
theorem c_X10_thing (l : Launch) (hl0 : l.stackTraces = false) : Ctr l yX10_thing cX10_thing 3 (some .int) 16 336 2 (fun sx => F_X10_thing) := ctr_of (by decide) (gl [(9, 1), (27, 1)]) (gl6 [(9, 1), (27, 1)]) ⟨rfl, rfl⟩ (fun p e s m args below meth c D ca ad sx sy A Q as M C0 hE hr hno hF => P_X10_thing (L_X10_thing hl0 C0 hE hr hno) hF)
theorem wg1182 : Cond.methodLink "WeighedHall$Sitting" 67 ⟨"java/lang/System", "arraycopy", "(Ljava/lang/Object;ILjava/lang/Object;II)V"⟩ ∈ GT := gt_mem 1302 (by decide +kernel) rfl
theorem d_X8_copyFrom_0 : decode cX8_copyFrom 0 = .ok (.aload_n 0, 1) := by decide +kernel
theorem d_X8_copyFrom_1 : decode cX8_copyFrom 1 = .ok (.aload_n 1, 1) := by decide +kernel
theorem d_X8_copyFrom_2 : decode cX8_copyFrom 2 = .ok (.getfield 12, 3) := by decide +kernel
theorem d_X8_copyFrom_5 : decode cX8_copyFrom 5 = .ok (.putfield 12, 3) := by decide +kernel
theorem d_X8_copyFrom_8 : decode cX8_copyFrom 8 = .ok (.aload_n 0, 1) := by decide +kernel
theorem d_X8_copyFrom_9 : decode cX8_copyFrom 9 = .ok (.aload_n 1, 1) := by decide +kernel
theorem d_X8_copyFrom_10 : decode cX8_copyFrom 10 = .ok (.getfield 21, 3) := by decide +kernel
theorem d_X8_copyFrom_13 : decode cX8_copyFrom 13 = .ok (.putfield 21, 3) := by decide +kernel
theorem d_X8_copyFrom_16 : decode cX8_copyFrom 16 = .ok (.aload_n 1, 1) := by decide +kernel
theorem d_X8_copyFrom_17 : decode cX8_copyFrom 17 = .ok (.getfield 25, 3) := by decide +kernel
theorem d_X8_copyFrom_20 : decode cX8_copyFrom 20 = .ok (.iconst 0, 1) := by decide +kernel
theorem d_X8_copyFrom_21 : decode cX8_copyFrom 21 = .ok (.aload_n 0, 1) := by decide +kernel
theorem d_X8_copyFrom_22 : decode cX8_copyFrom 22 = .ok (.getfield 25, 3) := by decide +kernel
theorem d_X8_copyFrom_25 : decode cX8_copyFrom 25 = .ok (.iconst 0, 1) := by decide +kernel
theorem d_X8_copyFrom_26 : decode cX8_copyFrom 26 = .ok (.bipush 14, 2) := by decide +kernel
theorem d_X8_copyFrom_28 : decode cX8_copyFrom 28 = .ok (.invokestatic 67, 3) := by decide +kernel
theorem d_X8_copyFrom_31 : decode cX8_copyFrom 31 = .ok (.aload_n 1, 1) := by decide +kernel
theorem d_X8_copyFrom_32 : decode cX8_copyFrom 32 = .ok (.getfield 29, 3) := by decide +kernel
theorem d_X8_copyFrom_35 : decode cX8_copyFrom 35 = .ok (.iconst 0, 1) := by decide +kernel
theorem d_X8_copyFrom_36 : decode cX8_copyFrom 36 = .ok (.aload_n 0, 1) := by decide +kernel
theorem d_X8_copyFrom_37 : decode cX8_copyFrom 37 = .ok (.getfield 29, 3) := by decide +kernel
theorem d_X8_copyFrom_40 : decode cX8_copyFrom 40 = .ok (.iconst 0, 1) := by decide +kernel
theorem d_X8_copyFrom_41 : decode cX8_copyFrom 41 = .ok (.bipush 14, 2) := by decide +kernel
theorem d_X8_copyFrom_43 : decode cX8_copyFrom 43 = .ok (.invokestatic 67, 3) := by decide +kernel
theorem d_X8_copyFrom_46 : decode cX8_copyFrom 46 = .ok (.aload_n 1, 1) := by decide +kernel
theorem d_X8_copyFrom_47 : decode cX8_copyFrom 47 = .ok (.getfield 32, 3) := by decide +kernel
theorem d_X8_copyFrom_50 : decode cX8_copyFrom 50 = .ok (.iconst 0, 1) := by decide +kernel
theorem d_X8_copyFrom_51 : decode cX8_copyFrom 51 = .ok (.aload_n 0, 1) := by decide +kernel
theorem d_X8_copyFrom_52 : decode cX8_copyFrom 52 = .ok (.getfield 32, 3) := by decide +kernel
theorem d_X8_copyFrom_55 : decode cX8_copyFrom 55 = .ok (.iconst 0, 1) := by decide +kernel
theorem d_X8_copyFrom_56 : decode cX8_copyFrom 56 = .ok (.bipush 14, 2) := by decide +kernel
theorem d_X8_copyFrom_58 : decode cX8_copyFrom 58 = .ok (.invokestatic 67, 3) := by decide +kernel
theorem d_X8_copyFrom_61 : decode cX8_copyFrom 61 = .ok (.aload_n 1, 1) := by decide +kernel
theorem d_X8_copyFrom_62 : decode cX8_copyFrom 62 = .ok (.getfield 35, 3) := by decide +kernel
theorem d_X8_copyFrom_65 : decode cX8_copyFrom 65 = .ok (.iconst 0, 1) := by decide +kernel
theorem d_X8_copyFrom_66 : decode cX8_copyFrom 66 = .ok (.aload_n 0, 1) := by decide +kernel
theorem d_X8_copyFrom_67 : decode cX8_copyFrom 67 = .ok (.getfield 35, 3) := by decide +kernel
theorem d_X8_copyFrom_70 : decode cX8_copyFrom 70 = .ok (.iconst 0, 1) := by decide +kernel
theorem d_X8_copyFrom_71 : decode cX8_copyFrom 71 = .ok (.bipush 10, 2) := by decide +kernel
theorem d_X8_copyFrom_73 : decode cX8_copyFrom 73 = .ok (.invokestatic 67, 3) := by decide +kernel
theorem d_X8_copyFrom_76 : decode cX8_copyFrom 76 = .ok (.aload_n 1, 1) := by decide +kernel
theorem d_X8_copyFrom_77 : decode cX8_copyFrom 77 = .ok (.getfield 38, 3) := by decide +kernel
theorem d_X8_copyFrom_80 : decode cX8_copyFrom 80 = .ok (.iconst 0, 1) := by decide +kernel
theorem d_X8_copyFrom_81 : decode cX8_copyFrom 81 = .ok (.aload_n 0, 1) := by decide +kernel
theorem d_X8_copyFrom_82 : decode cX8_copyFrom 82 = .ok (.getfield 38, 3) := by decide +kernel
theorem d_X8_copyFrom_85 : decode cX8_copyFrom 85 = .ok (.iconst 0, 1) := by decide +kernel
theorem d_X8_copyFrom_86 : decode cX8_copyFrom 86 = .ok (.bipush 10, 2) := by decide +kernel
theorem d_X8_copyFrom_88 : decode cX8_copyFrom 88 = .ok (.invokestatic 67, 3) := by decide +kernel
theorem d_X8_copyFrom_91 : decode cX8_copyFrom 91 = .ok (.aload_n 1, 1) := by decide +kernel
theorem d_X8_copyFrom_92 : decode cX8_copyFrom 92 = .ok (.getfield 41, 3) := by decide +kernel
theorem d_X8_copyFrom_95 : decode cX8_copyFrom 95 = .ok (.iconst 0, 1) := by decide +kernel
theorem d_X8_copyFrom_96 : decode cX8_copyFrom 96 = .ok (.aload_n 0, 1) := by decide +kernel
theorem d_X8_copyFrom_97 : decode cX8_copyFrom 97 = .ok (.getfield 41, 3) := by decide +kernel
theorem d_X8_copyFrom_100 : decode cX8_copyFrom 100 = .ok (.iconst 0, 1) := by decide +kernel
theorem d_X8_copyFrom_101 : decode cX8_copyFrom 101 = .ok (.bipush 10, 2) := by decide +kernel
theorem d_X8_copyFrom_103 : decode cX8_copyFrom 103 = .ok (.invokestatic 67, 3) := by decide +kernel
theorem d_X8_copyFrom_106 : decode cX8_copyFrom 106 = .ok (.return_, 1) := by decide +kernel
set_option maxRecDepth 100000 in
theorem L_X8_copyFrom {p : Program} {l : Launch} {e : Env} {s : State} {m : MethodId} {args : Array Value} {below : List Frame} {meth : Method} {c : Code} {D : va_G} {ca : Nat → ClassId} {ad sx sy : Nat → Nat} {A : Nat → Prop} {Q : QT} (C0 : CX p s m args meth c cX8_copyFrom 2 yX8_copyFrom.cls D ca ad A) (hE : EX sx sy A s s.heap) (hr : meth.sig.returnType = none) (hno : ∀ x ∈ c.exceptionTable.toList, False) : R_X8_copyFrom (JW p l e { frames := 10, cells := 0, slots := 6 * 0, locals := 200 } s m args below meth c 2 D ca ad A (vx_MQ below (Qn D ca ad A Q) (Qx D ca ad A Q) args s 0 (6 * 0) A) gz gz true) Q := s_aln C0 (d_X8_copyFrom_0) hgz (s_aln C0 (d_X8_copyFrom_1) hgz (s_gm C0 (j := 0) (c0 := 8) rfl gX8 (by decide) rfl rfl wg236 (d_X8_copyFrom_2) hgz (s_pm C0 (j := 0) (c0 := 8) rfl gX8 tyX8_ok nmX8 (by decide) rfl rfl rfl rfl wg236 (d_X8_copyFrom_5) hgz (s_aln C0 (d_X8_copyFrom_8) hgz (s_aln C0 (d_X8_copyFrom_9) hgz (s_gm C0 (j := 1) (c0 := 8) rfl gX8 (by decide) rfl rfl wg238 (d_X8_copyFrom_10) hgz (s_pm C0 (j := 1) (c0 := 8) rfl gX8 tyX8_ok nmX8 (by decide) rfl rfl rfl rfl wg238 (d_X8_copyFrom_13) hgz (s_aln C0 (d_X8_copyFrom_16) hgz (s_gr C0 (j := 2) (c0 := 8) rfl gX8 (by decide) rfl rfl wg239 (d_X8_copyFrom_17) hgz (s_ic C0 (d_X8_copyFrom_20) hgz (s_aln C0 (d_X8_copyFrom_21) hgz (s_gr C0 (j := 2) (c0 := 8) rfl gX8 (by decide) rfl rfl wg239 (d_X8_copyFrom_22) hgz (s_ic C0 (d_X8_copyFrom_25) hgz (s_bi C0 (d_X8_copyFrom_26) hgz (s_acp C0 wg1182 wg534 wg533 wg23 ⟨by decide, by decide⟩ (d_X8_copyFrom_28) hgz (s_aln C0 (d_X8_copyFrom_31) hgz (s_gr C0 (j := 3) (c0 := 8) rfl gX8 (by decide) rfl rfl wg241 (d_X8_copyFrom_32) hgz (s_ic C0 (d_X8_copyFrom_35) hgz (s_aln C0 (d_X8_copyFrom_36) hgz (s_gr C0 (j := 3) (c0 := 8) rfl gX8 (by decide) rfl rfl wg241 (d_X8_copyFrom_37) hgz (s_ic C0 (d_X8_copyFrom_40) hgz (s_bi C0 (d_X8_copyFrom_41) hgz (s_acp C0 wg1182 wg534 wg533 wg23 ⟨by decide, by decide⟩ (d_X8_copyFrom_43) hgz (s_aln C0 (d_X8_copyFrom_46) hgz (s_gr C0 (j := 4) (c0 := 8) rfl gX8 (by decide) rfl rfl wg243 (d_X8_copyFrom_47) hgz (s_ic C0 (d_X8_copyFrom_50) hgz (s_aln C0 (d_X8_copyFrom_51) hgz (s_gr C0 (j := 4) (c0 := 8) rfl gX8 (by decide) rfl rfl wg243 (d_X8_copyFrom_52) hgz (s_ic C0 (d_X8_copyFrom_55) hgz (s_bi C0 (d_X8_copyFrom_56) hgz (s_acp C0 wg1182 wg534 wg533 wg23 ⟨by decide, by decide⟩ (d_X8_copyFrom_58) hgz (s_aln C0 (d_X8_copyFrom_61) hgz (s_gr C0 (j := 5) (c0 := 8) rfl gX8 (by decide) rfl rfl wg244 (d_X8_copyFrom_62) hgz (s_ic C0 (d_X8_copyFrom_65) hgz (s_aln C0 (d_X8_copyFrom_66) hgz (s_gr C0 (j := 5) (c0 := 8) rfl gX8 (by decide) rfl rfl wg244 (d_X8_copyFrom_67) hgz (s_ic C0 (d_X8_copyFrom_70) hgz (s_bi C0 (d_X8_copyFrom_71) hgz (s_acp C0 wg1182 wg534 wg533 wg23 ⟨by decide, by decide⟩ (d_X8_copyFrom_73) hgz (s_aln C0 (d_X8_copyFrom_76) hgz (s_gr C0 (j := 6) (c0 := 8) rfl gX8 (by decide) rfl rfl wg245 (d_X8_copyFrom_77) hgz (s_ic C0 (d_X8_copyFrom_80) hgz (s_aln C0 (d_X8_copyFrom_81) hgz (s_gr C0 (j := 6) (c0 := 8) rfl gX8 (by decide) rfl rfl wg245 (d_X8_copyFrom_82) hgz (s_ic C0 (d_X8_copyFrom_85) hgz (s_bi C0 (d_X8_copyFrom_86) hgz (s_acp C0 wg1182 wg534 wg533 wg23 ⟨by decide, by decide⟩ (d_X8_copyFrom_88) hgz (s_aln C0 (d_X8_copyFrom_91) hgz (s_gr C0 (j := 7) (c0 := 8) rfl gX8 (by decide) rfl rfl wg247 (d_X8_copyFrom_92) hgz (s_ic C0 (d_X8_copyFrom_95) hgz (s_aln C0 (d_X8_copyFrom_96) hgz (s_gr C0 (j := 7) (c0 := 8) rfl gX8 (by decide) rfl rfl wg247 (d_X8_copyFrom_97) hgz (s_ic C0 (d_X8_copyFrom_100) hgz (s_bi C0 (d_X8_copyFrom_101) hgz (s_acp C0 wg1182 wg534 wg533 wg23 ⟨by decide, by decide⟩ (d_X8_copyFrom_103) hgz (s_rv C0 hr (d_X8_copyFrom_106) ⟨by decide, by decide⟩)) (okn rfl) rfl) (okn rfl)))) (okn rfl))))) (okn rfl) rfl) (okn rfl)))) (okn rfl))))) (okn rfl) rfl) (okn rfl)))) (okn rfl))))) (okn rfl) rfl) (okn rfl)))) (okn rfl))))) (okn rfl) rfl) (okn rfl)))) (okn rfl))))) (okn rfl) rfl) (okn rfl)))) (okn rfl)))))))))))
theorem c_X8_copyFrom (l : Launch) : Ctr l yX8_copyFrom cX8_copyFrom 2 none 10 200 0 (fun sx => (nf G_X8_copyFrom)) := ctr_of (by decide) gz gz ⟨rfl, rfl⟩ (fun p e s m args below meth c D ca ad sx sy A Q as M C0 hE hr hno hF => P_X8_copyFrom (L_X8_copyFrom C0 hE hr hno) hF)
theorem wg1181 : Cond.code ⟨"WeighedHall$Sitting", "copyFrom", "(LWeighedHall$Sitting;)V"⟩ prog_10_method_3_code 2 (Option.none : Option FieldType) ∈ GT := gt_mem 1301 (by decide +kernel) rfl
theorem wn1178 : Cond.methodLinkNest "WeighedHall" 324 ⟨"WeighedHall$Sitting", "copyFrom", "(LWeighedHall$Sitting;)V"⟩ "WeighedHall" ∈ NT := nt_mem 1178 (by decide +kernel) rfl
theorem wg1180 : Cond.instanceMethod ⟨"WeighedHall$Sitting", "copyFrom", "(LWeighedHall$Sitting;)V"⟩ ∈ GT := gt_mem 1300 (by decide +kernel) rfl
theorem ws81 : Cond.selects "WeighedHall$Sitting" ⟨"WeighedHall$Sitting", "copyFrom", "(LWeighedHall$Sitting;)V"⟩ ⟨"WeighedHall$Sitting", "copyFrom", "(LWeighedHall$Sitting;)V"⟩ ∈ GT := gt_mem 81 (by decide +kernel) rfl
theorem d_X10_tired_0 : decode cX10_tired 0 = .ok (.aload_n 0, 1) := by decide +kernel
theorem d_X10_tired_1 : decode cX10_tired 1 = .ok (.aload_n 0, 1) := by decide +kernel
theorem d_X10_tired_2 : decode cX10_tired 2 = .ok (.getfield 19, 3) := by decide +kernel
theorem d_X10_tired_5 : decode cX10_tired 5 = .ok (.iload_n 1, 1) := by decide +kernel
theorem d_X10_tired_6 : decode cX10_tired 6 = .ok (.invokevirtual 212, 3) := by decide +kernel
theorem d_X10_tired_9 : decode cX10_tired 9 = .ok (.invokevirtual 160, 3) := by decide +kernel
theorem d_X10_tired_12 : decode cX10_tired 12 = .ok (.aload_n 0, 1) := by decide +kernel
theorem d_X10_tired_13 : decode cX10_tired 13 = .ok (.invokevirtual 186, 3) := by decide +kernel
theorem d_X10_tired_16 : decode cX10_tired 16 = .ok (.iload_n 1, 1) := by decide +kernel
theorem d_X10_tired_17 : decode cX10_tired 17 = .ok (.aload_n 0, 1) := by decide +kernel
theorem d_X10_tired_18 : decode cX10_tired 18 = .ok (.getfield 19, 3) := by decide +kernel
theorem d_X10_tired_21 : decode cX10_tired 21 = .ok (.getfield 153, 3) := by decide +kernel
theorem d_X10_tired_24 : decode cX10_tired 24 = .ok (.invokevirtual 218, 3) := by decide +kernel
theorem d_X10_tired_27 : decode cX10_tired 27 = .ok (.istore_n 2, 1) := by decide +kernel
theorem d_X10_tired_28 : decode cX10_tired 28 = .ok (.aload_n 0, 1) := by decide +kernel
theorem d_X10_tired_29 : decode cX10_tired 29 = .ok (.getfield 19, 3) := by decide +kernel
theorem d_X10_tired_32 : decode cX10_tired 32 = .ok (.getfield 318, 3) := by decide +kernel
theorem d_X10_tired_35 : decode cX10_tired 35 = .ok (.iload_n 1, 1) := by decide +kernel
theorem d_X10_tired_36 : decode cX10_tired 36 = .ok (.iaload, 1) := by decide +kernel
theorem d_X10_tired_37 : decode cX10_tired 37 = .ok (.istore_n 3, 1) := by decide +kernel
theorem d_X10_tired_38 : decode cX10_tired 38 = .ok (.aload_n 0, 1) := by decide +kernel
theorem d_X10_tired_39 : decode cX10_tired 39 = .ok (.iload_n 3, 1) := by decide +kernel
theorem d_X10_tired_40 : decode cX10_tired 40 = .ok (.invokevirtual 321, 3) := by decide +kernel
theorem d_X10_tired_43 : decode cX10_tired 43 = .ok (.iconst 1, 1) := by decide +kernel
theorem d_X10_tired_44 : decode cX10_tired 44 = .ok (.istore 4, 2) := by decide +kernel
theorem d_X10_tired_46 : decode cX10_tired 46 = .ok (.iload 4, 2) := by decide +kernel
theorem d_X10_tired_48 : decode cX10_tired 48 = .ok (.bipush 60, 2) := by decide +kernel
theorem d_X10_tired_50 : decode cX10_tired 50 = .ok (.if_icmp .gt 68, 3) := by decide +kernel
theorem d_X10_tired_53 : decode cX10_tired 53 = .ok (.aload_n 0, 1) := by decide +kernel
theorem d_X10_tired_54 : decode cX10_tired 54 = .ok (.getfield 61, 3) := by decide +kernel
theorem d_X10_tired_57 : decode cX10_tired 57 = .ok (.iload_n 3, 1) := by decide +kernel
theorem d_X10_tired_58 : decode cX10_tired 58 = .ok (.iload 4, 2) := by decide +kernel
theorem d_X10_tired_60 : decode cX10_tired 60 = .ok (.iadd, 1) := by decide +kernel
theorem d_X10_tired_61 : decode cX10_tired 61 = .ok (.iconst 1, 1) := by decide +kernel
theorem d_X10_tired_62 : decode cX10_tired 62 = .ok (.isub, 1) := by decide +kernel
theorem d_X10_tired_63 : decode cX10_tired 63 = .ok (.iconst (-1), 1) := by decide +kernel
theorem d_X10_tired_64 : decode cX10_tired 64 = .ok (.invokevirtual 252, 3) := by decide +kernel
theorem d_X10_tired_67 : decode cX10_tired 67 = .ok (.aload_n 0, 1) := by decide +kernel
theorem d_X10_tired_68 : decode cX10_tired 68 = .ok (.getfield 65, 3) := by decide +kernel
theorem d_X10_tired_71 : decode cX10_tired 71 = .ok (.aload_n 0, 1) := by decide +kernel
theorem d_X10_tired_72 : decode cX10_tired 72 = .ok (.getfield 61, 3) := by decide +kernel
theorem d_X10_tired_75 : decode cX10_tired 75 = .ok (.invokevirtual 324, 3) := by decide +kernel
theorem d_X10_tired_78 : decode cX10_tired 78 = .ok (.aload_n 0, 1) := by decide +kernel
theorem d_X10_tired_79 : decode cX10_tired 79 = .ok (.getfield 65, 3) := by decide +kernel
theorem d_X10_tired_82 : decode cX10_tired 82 = .ok (.iload_n 3, 1) := by decide +kernel
theorem d_X10_tired_83 : decode cX10_tired 83 = .ok (.iload 4, 2) := by decide +kernel
theorem d_X10_tired_85 : decode cX10_tired 85 = .ok (.iadd, 1) := by decide +kernel
theorem d_X10_tired_86 : decode cX10_tired 86 = .ok (.iload_n 3, 1) := by decide +kernel
theorem d_X10_tired_87 : decode cX10_tired 87 = .ok (.invokevirtual 252, 3) := by decide +kernel
theorem d_X10_tired_90 : decode cX10_tired 90 = .ok (.aload_n 0, 1) := by decide +kernel
theorem d_X10_tired_91 : decode cX10_tired 91 = .ok (.getfield 65, 3) := by decide +kernel
theorem d_X10_tired_94 : decode cX10_tired 94 = .ok (.iload_n 1, 1) := by decide +kernel
theorem d_X10_tired_95 : decode cX10_tired 95 = .ok (.aload_n 0, 1) := by decide +kernel
theorem d_X10_tired_96 : decode cX10_tired 96 = .ok (.getfield 19, 3) := by decide +kernel
theorem d_X10_tired_99 : decode cX10_tired 99 = .ok (.getfield 153, 3) := by decide +kernel
theorem d_X10_tired_102 : decode cX10_tired 102 = .ok (.invokevirtual 328, 3) := by decide +kernel
theorem d_X10_tired_105 : decode cX10_tired 105 = .ok (.iload_n 2, 1) := by decide +kernel
theorem d_X10_tired_106 : decode cX10_tired 106 = .ok (.if_icmp .eq 6, 3) := by decide +kernel
theorem d_X10_tired_109 : decode cX10_tired 109 = .ok (.iload 4, 2) := by decide +kernel
theorem d_X10_tired_111 : decode cX10_tired 111 = .ok (.ireturn, 1) := by decide +kernel
theorem d_X10_tired_112 : decode cX10_tired 112 = .ok (.iinc 4 1, 3) := by decide +kernel
theorem d_X10_tired_115 : decode cX10_tired 115 = .ok (.goto (-69), 3) := by decide +kernel
theorem d_X10_tired_118 : decode cX10_tired 118 = .ok (.iconst (-1), 1) := by decide +kernel
theorem d_X10_tired_119 : decode cX10_tired 119 = .ok (.ireturn, 1) := by decide +kernel
set_option maxRecDepth 100000 in
theorem L_X10_tired {p : Program} {l : Launch} {e : Env} {s : State} {m : MethodId} {args : Array Value} {below : List Frame} {meth : Method} {c : Code} {D : va_G} {ca : Nat → ClassId} {ad sx sy : Nat → Nat} {A : Nat → Prop} {Q : QT} (hl0 : l.stackTraces = false) (C0 : CX p s m args meth c cX10_tired 5 yX10_tired.cls D ca ad A) (hE : EX sx sy A s s.heap) (hr : meth.sig.returnType = (some .int)) (hno : ∀ x ∈ c.exceptionTable.toList, False) : R_X10_tired (JW p l e { frames := 16, cells := 1, slots := 6 * 1, locals := 336 } s m args below meth c 5 D ca ad A (vx_MQ below (Qn D ca ad A Q) (Qx D ca ad A Q) args s 1 (6 * 1) A) (gl [(9, 1)]) (gl6 [(9, 1)]) true) Q := ⟨s_aln C0 (d_X10_tired_0) (hgq rfl) (s_aln C0 (d_X10_tired_1) (hgq rfl) (s_gm C0 (j := 1) (c0 := 10) rfl gX10 (by decide) rfl rfl wg394 (d_X10_tired_2) (hgq rfl) (s_iln C0 (d_X10_tired_5) (hgq rfl) (s_callVN C0 hE (c_X6_hasMotion l) wg969 wn966 wg968 ws57 wg3 ⟨by decide, by decide⟩ (by decide +kernel) (c0 := 6) rfl ⟨by decide, by decide⟩ ⟨by decide, by decide⟩ (d_X10_tired_6) (fun x hx => (hno x hx).elim) ⟨by decide, by decide⟩ ⟨by decide, by decide⟩ (s_callV C0 hE (c_X10_needElement l hl0) wg815 wg812 wg814 ws37 wg1 ⟨by decide, by decide⟩ (by decide +kernel) (c0 := 10) rfl ⟨by decide, by decide⟩ ⟨by decide, by decide⟩ (d_X10_tired_9) (fun x hx => (hno x hx).elim) ⟨by decide, by decide⟩ ⟨by decide, by decide⟩ (s_aln C0 (d_X10_tired_12) (hgq rfl) (s_callV C0 hE (c_X10_chronicled l) wg844 wg841 wg843 ws38 wg1 ⟨by decide, by decide⟩ (by decide +kernel) (c0 := 10) rfl ⟨by decide, by decide⟩ ⟨by decide, by decide⟩ (d_X10_tired_13) (fun x hx => (hno x hx).elim) ⟨by decide, by decide⟩ ⟨by decide, by decide⟩ (s_iln C0 (d_X10_tired_16) (hgq rfl) (s_aln C0 (d_X10_tired_17) (hgq rfl) (s_gm C0 (j := 1) (c0 := 10) rfl gX10 (by decide) rfl rfl wg394 (d_X10_tired_18) (hgq rfl) (s_giN C0 (j := 14) (c0 := 6) rfl gX6 (by decide) rfl (by decide) wn132 (d_X10_tired_21) (hgq rfl) (s_callVN C0 hE (c_X3_isPassed l) wg976 wn973 wg975 ws58 wg6 ⟨by decide, by decide⟩ (by decide +kernel) (c0 := 3) rfl ⟨by decide, by decide⟩ ⟨by decide, by decide⟩ (d_X10_tired_24) (fun x hx => (hno x hx).elim) ⟨by decide, by decide⟩ ⟨by decide, by decide⟩ (s_isn C0 (d_X10_tired_27) (hgq rfl) (s_aln C0 (d_X10_tired_28) (hgq rfl) (s_gm C0 (j := 1) (c0 := 10) rfl gX10 (by decide) rfl rfl wg394 (d_X10_tired_29) (hgq rfl) (s_grN C0 (j := 11) (c0 := 6) rfl gX6 (by decide) rfl rfl wn123 (d_X10_tired_32) (hgq rfl) (s_iln C0 (d_X10_tired_35) (hgq rfl) (s_ia C0 (d_X10_tired_36) (hgq rfl) (s_isn C0 (d_X10_tired_37) (hgq rfl) (s_aln C0 (d_X10_tired_38) (hgq rfl) (s_iln C0 (d_X10_tired_39) (hgq rfl) (s_callV C0 hE (c_X10_pauseFrom l) wg1177 wg1174 wg1176 ws80 wg1 ⟨by decide, by decide⟩ (by decide +kernel) (c0 := 10) rfl ⟨by decide, by decide⟩ ⟨by decide, by decide⟩ (d_X10_tired_40) (fun x hx => (hno x hx).elim) ⟨by decide, by decide⟩ ⟨by decide, by decide⟩ (s_ic C0 (d_X10_tired_43) (hgq rfl) (s_is C0 (d_X10_tired_44) (hgq rfl) (fun _ _ _ h => h)) (okn rfl)))))))))))))))))))))))),
  s_il C0 (d_X10_tired_46) (hgq rfl) (s_bi C0 (d_X10_tired_48) (hgq rfl) (s_cgt C0 (d_X10_tired_50) (by decide) (hgq rfl) (hgq rfl) (fun _ _ _ h => h) (s_aln C0 (d_X10_tired_53) (hgq rfl) (s_gr C0 (j := 10) (c0 := 10) rfl gX10 (by decide) rfl rfl wg403 (d_X10_tired_54) (hgq rfl) (s_iln C0 (d_X10_tired_57) (hgq rfl) (s_il C0 (d_X10_tired_58) (hgq rfl) (s_add C0 (d_X10_tired_60) (hgq rfl) (s_ic C0 (d_X10_tired_61) (hgq rfl) (s_sub C0 (d_X10_tired_62) (hgq rfl) (s_ic C0 (d_X10_tired_63) (hgq rfl) (s_callVN C0 hE (c_X8_goThrough l) wg871 wn1049 wg870 ws43 wg7 ⟨by decide, by decide⟩ (by decide +kernel) (c0 := 8) rfl ⟨by decide, by decide⟩ ⟨by decide, by decide⟩ (d_X10_tired_64) (fun x hx => (hno x hx).elim) ⟨by decide, by decide⟩ ⟨by decide, by decide⟩ (s_aln C0 (d_X10_tired_67) (hgq rfl) (s_gr C0 (j := 11) (c0 := 10) rfl gX10 (by decide) rfl rfl wg404 (d_X10_tired_68) (hgq rfl) (s_aln C0 (d_X10_tired_71) (hgq rfl) (s_gr C0 (j := 10) (c0 := 10) rfl gX10 (by decide) rfl rfl wg403 (d_X10_tired_72) (hgq rfl) (s_callVN C0 hE (c_X8_copyFrom l) wg1181 wn1178 wg1180 ws81 wg7 ⟨by decide, by decide⟩ (by decide +kernel) (c0 := 8) rfl ⟨by decide, by decide⟩ ⟨by decide, by decide⟩ (d_X10_tired_75) (fun x hx => (hno x hx).elim) ⟨by decide, by decide⟩ ⟨by decide, by decide⟩ (s_aln C0 (d_X10_tired_78) (hgq rfl) (s_gr C0 (j := 11) (c0 := 10) rfl gX10 (by decide) rfl rfl wg404 (d_X10_tired_79) (hgq rfl) (s_iln C0 (d_X10_tired_82) (hgq rfl) (s_il C0 (d_X10_tired_83) (hgq rfl) (s_add C0 (d_X10_tired_85) (hgq rfl) (s_iln C0 (d_X10_tired_86) (hgq rfl) (s_callVN C0 hE (c_X8_goThrough l) wg871 wn1049 wg870 ws43 wg7 ⟨by decide, by decide⟩ (by decide +kernel) (c0 := 8) rfl ⟨by decide, by decide⟩ ⟨by decide, by decide⟩ (d_X10_tired_87) (fun x hx => (hno x hx).elim) ⟨by decide, by decide⟩ ⟨by decide, by decide⟩ (s_aln C0 (d_X10_tired_90) (hgq rfl) (s_gr C0 (j := 11) (c0 := 10) rfl gX10 (by decide) rfl rfl wg404 (d_X10_tired_91) (hgq rfl) (s_iln C0 (d_X10_tired_94) (hgq rfl) (s_aln C0 (d_X10_tired_95) (hgq rfl) (s_gm C0 (j := 1) (c0 := 10) rfl gX10 (by decide) rfl rfl wg394 (d_X10_tired_96) (hgq rfl) (s_giN C0 (j := 14) (c0 := 6) rfl gX6 (by decide) rfl (by decide) wn132 (d_X10_tired_99) (hgq rfl) (s_callVN C0 hE (c_X8_isPassed l) wg1057 wn1183 wg1056 ws67 wg7 ⟨by decide, by decide⟩ (by decide +kernel) (c0 := 8) rfl ⟨by decide, by decide⟩ ⟨by decide, by decide⟩ (d_X10_tired_102) (fun x hx => (hno x hx).elim) ⟨by decide, by decide⟩ ⟨by decide, by decide⟩ (s_iln C0 (d_X10_tired_105) (hgq rfl) (s_ceq C0 (d_X10_tired_106) (by decide) (hgq rfl) (hgq rfl) (fun _ _ _ h => h) (s_il C0 (d_X10_tired_109) (hgq rfl) (s_ri C0 hr (d_X10_tired_111) ⟨by decide, by decide⟩)))))))))))))))))))))))) (okn rfl))) (okn rfl)))))))) (okn rfl) rfl),
  s_inc C0 (d_X10_tired_112) (hgq rfl) (s_goto C0 (tgt := 46) (d_X10_tired_115) (by decide) (hgq rfl) (fun _ _ _ h => h)),
  s_ic C0 (d_X10_tired_118) (hgq rfl) (s_ri C0 hr (d_X10_tired_119) ⟨by decide, by decide⟩) (okn rfl)⟩
theorem c_X10_tired (l : Launch) (hl0 : l.stackTraces = false) : Ctr l yX10_tired cX10_tired 5 (some .int) 16 336 1 (fun sx => F_X10_tired) := ctr_of (by decide) (gl [(9, 1)]) (gl6 [(9, 1)]) ⟨rfl, rfl⟩ (fun p e s m args below meth c D ca ad sx sy A Q as M C0 hE hr hno hF => P_X10_tired (L_X10_tired hl0 C0 hE hr hno) hF)
theorem d_X7_isHoldingTogether_0 : decode cX7_isHoldingTogether 0 = .ok (.aload_n 0, 1) := by decide +kernel
theorem d_X7_isHoldingTogether_1 : decode cX7_isHoldingTogether 1 = .ok (.iload_n 1, 1) := by decide +kernel
theorem d_X7_isHoldingTogether_2 : decode cX7_isHoldingTogether 2 = .ok (.invokevirtual 53, 3) := by decide +kernel
theorem d_X7_isHoldingTogether_5 : decode cX7_isHoldingTogether 5 = .ok (.ifCond .ne 5, 3) := by decide +kernel
theorem d_X7_isHoldingTogether_8 : decode cX7_isHoldingTogether 8 = .ok (.iconst 0, 1) := by decide +kernel
theorem d_X7_isHoldingTogether_9 : decode cX7_isHoldingTogether 9 = .ok (.ireturn, 1) := by decide +kernel
theorem d_X7_isHoldingTogether_10 : decode cX7_isHoldingTogether 10 = .ok (.iconst 0, 1) := by decide +kernel
theorem d_X7_isHoldingTogether_11 : decode cX7_isHoldingTogether 11 = .ok (.istore_n 2, 1) := by decide +kernel
theorem d_X7_isHoldingTogether_12 : decode cX7_isHoldingTogether 12 = .ok (.iload_n 2, 1) := by decide +kernel
theorem d_X7_isHoldingTogether_13 : decode cX7_isHoldingTogether 13 = .ok (.iconst 4, 1) := by decide +kernel
theorem d_X7_isHoldingTogether_14 : decode cX7_isHoldingTogether 14 = .ok (.if_icmp .ge 31, 3) := by decide +kernel
theorem d_X7_isHoldingTogether_17 : decode cX7_isHoldingTogether 17 = .ok (.iload_n 2, 1) := by decide +kernel
theorem d_X7_isHoldingTogether_18 : decode cX7_isHoldingTogether 18 = .ok (.iload_n 1, 1) := by decide +kernel
theorem d_X7_isHoldingTogether_19 : decode cX7_isHoldingTogether 19 = .ok (.invokestatic 42, 3) := by decide +kernel
theorem d_X7_isHoldingTogether_22 : decode cX7_isHoldingTogether 22 = .ok (.ifCond .eq 17, 3) := by decide +kernel
theorem d_X7_isHoldingTogether_25 : decode cX7_isHoldingTogether 25 = .ok (.aload_n 0, 1) := by decide +kernel
theorem d_X7_isHoldingTogether_26 : decode cX7_isHoldingTogether 26 = .ok (.iload_n 1, 1) := by decide +kernel
theorem d_X7_isHoldingTogether_27 : decode cX7_isHoldingTogether 27 = .ok (.iconst 1, 1) := by decide +kernel
theorem d_X7_isHoldingTogether_28 : decode cX7_isHoldingTogether 28 = .ok (.iload_n 2, 1) := by decide +kernel
theorem d_X7_isHoldingTogether_29 : decode cX7_isHoldingTogether 29 = .ok (.ishl, 1) := by decide +kernel
theorem d_X7_isHoldingTogether_30 : decode cX7_isHoldingTogether 30 = .ok (.ixor, 1) := by decide +kernel
theorem d_X7_isHoldingTogether_31 : decode cX7_isHoldingTogether 31 = .ok (.invokevirtual 53, 3) := by decide +kernel
theorem d_X7_isHoldingTogether_34 : decode cX7_isHoldingTogether 34 = .ok (.ifCond .eq 5, 3) := by decide +kernel
theorem d_X7_isHoldingTogether_37 : decode cX7_isHoldingTogether 37 = .ok (.iconst 0, 1) := by decide +kernel
theorem d_X7_isHoldingTogether_38 : decode cX7_isHoldingTogether 38 = .ok (.ireturn, 1) := by decide +kernel
theorem d_X7_isHoldingTogether_39 : decode cX7_isHoldingTogether 39 = .ok (.iinc 2 1, 3) := by decide +kernel
theorem d_X7_isHoldingTogether_42 : decode cX7_isHoldingTogether 42 = .ok (.goto (-30), 3) := by decide +kernel
theorem d_X7_isHoldingTogether_45 : decode cX7_isHoldingTogether 45 = .ok (.iconst 1, 1) := by decide +kernel
theorem d_X7_isHoldingTogether_46 : decode cX7_isHoldingTogether 46 = .ok (.ireturn, 1) := by decide +kernel
set_option maxRecDepth 100000 in
theorem L_X7_isHoldingTogether {p : Program} {l : Launch} {e : Env} {s : State} {m : MethodId} {args : Array Value} {below : List Frame} {meth : Method} {c : Code} {D : va_G} {ca : Nat → ClassId} {ad sx sy : Nat → Nat} {A : Nat → Prop} {Q : QT} (C0 : CX p s m args meth c cX7_isHoldingTogether 3 yX7_isHoldingTogether.cls D ca ad A) (hE : EX sx sy A s s.heap) (hr : meth.sig.returnType = (some .boolean)) (hno : ∀ x ∈ c.exceptionTable.toList, False) : R_X7_isHoldingTogether (JW p l e { frames := 12, cells := 0, slots := 6 * 0, locals := 244 } s m args below meth c 3 D ca ad A (vx_MQ below (Qn D ca ad A Q) (Qx D ca ad A Q) args s 0 (6 * 0) A) gz gz true) Q := ⟨s_aln C0 (d_X7_isHoldingTogether_0) hgz (s_iln C0 (d_X7_isHoldingTogether_1) hgz (s_callV C0 hE (c_X7_isWinning l) wg511 wg508 wg510 ws8 wg10 ⟨by decide, by decide⟩ (by decide +kernel) (c0 := 7) rfl ⟨by decide, by decide⟩ ⟨by decide, by decide⟩ (d_X7_isHoldingTogether_2) (fun x hx => (hno x hx).elim) ⟨by decide, by decide⟩ ⟨by decide, by decide⟩ (s_zne C0 (d_X7_isHoldingTogether_5) (by decide) hgz hgz (fun _ _ _ h => h) (s_ic C0 (d_X7_isHoldingTogether_8) hgz (s_rz C0 hr (d_X7_isHoldingTogether_9) ⟨by decide, by decide⟩) (okn rfl))))),
  s_ic C0 (d_X7_isHoldingTogether_10) hgz (s_isn C0 (d_X7_isHoldingTogether_11) hgz (fun _ _ _ h => h)) (okn rfl),
  s_iln C0 (d_X7_isHoldingTogether_12) hgz (s_ic C0 (d_X7_isHoldingTogether_13) hgz (s_cge C0 (d_X7_isHoldingTogether_14) (by decide) hgz hgz (fun _ _ _ h => h) (s_iln C0 (d_X7_isHoldingTogether_17) hgz (s_iln C0 (d_X7_isHoldingTogether_18) hgz (s_callSN C0 hE (c_X10_isIn l) wg491 wn489 wg490 wg1 ⟨by decide, by decide⟩ (by decide +kernel) ⟨by decide, by decide⟩ ⟨by decide, by decide⟩ (d_X7_isHoldingTogether_19) (fun x hx => (hno x hx).elim) ⟨by decide, by decide⟩ ⟨by decide, by decide⟩ (s_zeq C0 (d_X7_isHoldingTogether_22) (by decide) hgz hgz (fun _ _ _ h => h) (s_aln C0 (d_X7_isHoldingTogether_25) hgz (s_iln C0 (d_X7_isHoldingTogether_26) hgz (s_ic C0 (d_X7_isHoldingTogether_27) hgz (s_iln C0 (d_X7_isHoldingTogether_28) hgz (s_shl C0 (d_X7_isHoldingTogether_29) hgz (s_xor C0 (d_X7_isHoldingTogether_30) hgz (s_callV C0 hE (c_X7_isWinning l) wg511 wg508 wg510 ws8 wg10 ⟨by decide, by decide⟩ (by decide +kernel) (c0 := 7) rfl ⟨by decide, by decide⟩ ⟨by decide, by decide⟩ (d_X7_isHoldingTogether_31) (fun x hx => (hno x hx).elim) ⟨by decide, by decide⟩ ⟨by decide, by decide⟩ (s_zeq C0 (d_X7_isHoldingTogether_34) (by decide) hgz hgz (fun _ _ _ h => h) (s_ic C0 (d_X7_isHoldingTogether_37) hgz (s_rz C0 hr (d_X7_isHoldingTogether_38) ⟨by decide, by decide⟩) (okn rfl))))))) (okn rfl))))))))) (okn rfl)),
  s_inc C0 (d_X7_isHoldingTogether_39) hgz (s_goto C0 (tgt := 12) (d_X7_isHoldingTogether_42) (by decide) hgz (fun _ _ _ h => h)),
  s_ic C0 (d_X7_isHoldingTogether_45) hgz (s_rz C0 hr (d_X7_isHoldingTogether_46) ⟨by decide, by decide⟩) (okn rfl)⟩
theorem c_X7_isHoldingTogether (l : Launch) : Ctr l yX7_isHoldingTogether cX7_isHoldingTogether 3 (some .boolean) 12 244 0 (fun sx => (nf G_X7_isHoldingTogether)) := ctr_of (by decide) gz gz ⟨rfl, rfl⟩ (fun p e s m args below meth c D ca ad sx sy A Q as M C0 hE hr hno hF => P_X7_isHoldingTogether (L_X7_isHoldingTogether C0 hE hr hno) hF)
theorem wg507 : Cond.code ⟨"WeighedHall$Scales", "isHoldingTogether", "(I)Z"⟩ prog_9_method_7_code 3 (Option.some .boolean) ∈ GT := gt_mem 627 (by decide +kernel) rfl
theorem wn504 : Cond.methodLinkNest "WeighedHall" 281 ⟨"WeighedHall$Scales", "isHoldingTogether", "(I)Z"⟩ "WeighedHall" ∈ NT := nt_mem 504 (by decide +kernel) rfl
theorem wg506 : Cond.instanceMethod ⟨"WeighedHall$Scales", "isHoldingTogether", "(I)Z"⟩ ∈ GT := gt_mem 626 (by decide +kernel) rfl
theorem ws7 : Cond.selects "WeighedHall$Scales" ⟨"WeighedHall$Scales", "isHoldingTogether", "(I)Z"⟩ ⟨"WeighedHall$Scales", "isHoldingTogether", "(I)Z"⟩ ∈ GT := gt_mem 7 (by decide +kernel) rfl
theorem d_X10_together_0 : decode cX10_together 0 = .ok (.aload_n 0, 1) := by decide +kernel
theorem d_X10_together_1 : decode cX10_together 1 = .ok (.getfield 85, 3) := by decide +kernel
theorem d_X10_together_4 : decode cX10_together 4 = .ok (.aload_n 0, 1) := by decide +kernel
theorem d_X10_together_5 : decode cX10_together 5 = .ok (.getfield 19, 3) := by decide +kernel
theorem d_X10_together_8 : decode cX10_together 8 = .ok (.invokevirtual 266, 3) := by decide +kernel
theorem d_X10_together_11 : decode cX10_together 11 = .ok (.iconst 0, 1) := by decide +kernel
theorem d_X10_together_12 : decode cX10_together 12 = .ok (.istore_n 2, 1) := by decide +kernel
theorem d_X10_together_13 : decode cX10_together 13 = .ok (.iconst 0, 1) := by decide +kernel
theorem d_X10_together_14 : decode cX10_together 14 = .ok (.istore_n 3, 1) := by decide +kernel
theorem d_X10_together_15 : decode cX10_together 15 = .ok (.iload_n 3, 1) := by decide +kernel
theorem d_X10_together_16 : decode cX10_together 16 = .ok (.bipush 16, 2) := by decide +kernel
theorem d_X10_together_18 : decode cX10_together 18 = .ok (.if_icmp .ge 30, 3) := by decide +kernel
theorem d_X10_together_21 : decode cX10_together 21 = .ok (.aload_n 0, 1) := by decide +kernel
theorem d_X10_together_22 : decode cX10_together 22 = .ok (.getfield 85, 3) := by decide +kernel
theorem d_X10_together_25 : decode cX10_together 25 = .ok (.iload_n 3, 1) := by decide +kernel
theorem d_X10_together_26 : decode cX10_together 26 = .ok (.invokevirtual 281, 3) := by decide +kernel
theorem d_X10_together_29 : decode cX10_together 29 = .ok (.ifCond .eq 13, 3) := by decide +kernel
theorem d_X10_together_32 : decode cX10_together 32 = .ok (.iload_n 2, 1) := by decide +kernel
theorem d_X10_together_33 : decode cX10_together 33 = .ok (.iload_n 1, 1) := by decide +kernel
theorem d_X10_together_34 : decode cX10_together 34 = .ok (.if_icmp .ne 5, 3) := by decide +kernel
theorem d_X10_together_37 : decode cX10_together 37 = .ok (.iload_n 3, 1) := by decide +kernel
theorem d_X10_together_38 : decode cX10_together 38 = .ok (.ireturn, 1) := by decide +kernel
theorem d_X10_together_39 : decode cX10_together 39 = .ok (.iinc 2 1, 3) := by decide +kernel
theorem d_X10_together_42 : decode cX10_together 42 = .ok (.iinc 3 1, 3) := by decide +kernel
theorem d_X10_together_45 : decode cX10_together 45 = .ok (.goto (-30), 3) := by decide +kernel
theorem d_X10_together_48 : decode cX10_together 48 = .ok (.iconst (-1), 1) := by decide +kernel
theorem d_X10_together_49 : decode cX10_together 49 = .ok (.ireturn, 1) := by decide +kernel
set_option maxRecDepth 100000 in
theorem L_X10_together {p : Program} {l : Launch} {e : Env} {s : State} {m : MethodId} {args : Array Value} {below : List Frame} {meth : Method} {c : Code} {D : va_G} {ca : Nat → ClassId} {ad sx sy : Nat → Nat} {A : Nat → Prop} {Q : QT} (C0 : CX p s m args meth c cX10_together 4 yX10_together.cls D ca ad A) (hE : EX sx sy A s s.heap) (hr : meth.sig.returnType = (some .int)) (hno : ∀ x ∈ c.exceptionTable.toList, False) : R_X10_together (JW p l e { frames := 13, cells := 0, slots := 6 * 0, locals := 266 } s m args below meth c 4 D ca ad A (vx_MQ below (Qn D ca ad A Q) (Qx D ca ad A Q) args s 0 (6 * 0) A) gz gz true) Q := ⟨s_aln C0 (d_X10_together_0) hgz (s_gr C0 (j := 14) (c0 := 10) rfl gX10 (by decide) rfl rfl wg407 (d_X10_together_1) hgz (s_aln C0 (d_X10_together_4) hgz (s_gm C0 (j := 1) (c0 := 10) rfl gX10 (by decide) rfl rfl wg394 (d_X10_together_5) hgz (s_callVN C0 hE (c_X7_weighParties l) wg503 wn500 wg502 ws6 wg10 ⟨by decide, by decide⟩ (by decide +kernel) (c0 := 7) rfl ⟨by decide, by decide⟩ ⟨by decide, by decide⟩ (d_X10_together_8) (fun x hx => (hno x hx).elim) ⟨by decide, by decide⟩ ⟨by decide, by decide⟩ (s_ic C0 (d_X10_together_11) hgz (s_isn C0 (d_X10_together_12) hgz (s_ic C0 (d_X10_together_13) hgz (s_isn C0 (d_X10_together_14) hgz (fun _ _ _ h => h)) (okn rfl))) (okn rfl)))))),
  s_iln C0 (d_X10_together_15) hgz (s_bi C0 (d_X10_together_16) hgz (s_cge C0 (d_X10_together_18) (by decide) hgz hgz (fun _ _ _ h => h) (s_aln C0 (d_X10_together_21) hgz (s_gr C0 (j := 14) (c0 := 10) rfl gX10 (by decide) rfl rfl wg407 (d_X10_together_22) hgz (s_iln C0 (d_X10_together_25) hgz (s_callVN C0 hE (c_X7_isHoldingTogether l) wg507 wn504 wg506 ws7 wg10 ⟨by decide, by decide⟩ (by decide +kernel) (c0 := 7) rfl ⟨by decide, by decide⟩ ⟨by decide, by decide⟩ (d_X10_together_26) (fun x hx => (hno x hx).elim) ⟨by decide, by decide⟩ ⟨by decide, by decide⟩ (s_zeq C0 (d_X10_together_29) (by decide) hgz hgz (fun _ _ _ h => h) (s_iln C0 (d_X10_together_32) hgz (s_iln C0 (d_X10_together_33) hgz (s_cne C0 (d_X10_together_34) (by decide) hgz hgz (fun _ _ _ h => h) (s_iln C0 (d_X10_together_37) hgz (s_ri C0 hr (d_X10_together_38) ⟨by decide, by decide⟩))))))))))) (okn rfl) rfl),
  s_inc C0 (d_X10_together_39) hgz (fun _ _ _ h => h),
  s_inc C0 (d_X10_together_42) hgz (s_goto C0 (tgt := 15) (d_X10_together_45) (by decide) hgz (fun _ _ _ h => h)),
  s_ic C0 (d_X10_together_48) hgz (s_ri C0 hr (d_X10_together_49) ⟨by decide, by decide⟩) (okn rfl)⟩
theorem c_X10_together (l : Launch) : Ctr l yX10_together cX10_together 4 (some .int) 13 266 0 (fun sx => (nf G_X10_together)) := ctr_of (by decide) gz gz ⟨rfl, rfl⟩ (fun p e s m args below meth c D ca ad sx sy A Q as M C0 hE hr hno hF => P_X10_together (L_X10_together C0 hE hr hno) hF)
theorem wn90 : Cond.fieldLinkNest "WeighedHall" 144 "WeighedHall$Plan" "things" "I" "WeighedHall" ∈ NT := nt_mem 90 (by decide +kernel) rfl
theorem wn117 : Cond.fieldLinkNest "WeighedHall" 150 "WeighedHall$Plan" "motions" "I" "WeighedHall" ∈ NT := nt_mem 117 (by decide +kernel) rfl
theorem d_X10_told_0 : decode cX10_told 0 = .ok (.aload_n 0, 1) := by decide +kernel
theorem d_X10_told_1 : decode cX10_told 1 = .ok (.iload_n 1, 1) := by decide +kernel
theorem d_X10_told_2 : decode cX10_told 2 = .ok (.ifCond .lt 12, 3) := by decide +kernel
theorem d_X10_told_5 : decode cX10_told 5 = .ok (.iload_n 1, 1) := by decide +kernel
theorem d_X10_told_6 : decode cX10_told 6 = .ok (.iconst 5, 1) := by decide +kernel
theorem d_X10_told_7 : decode cX10_told 7 = .ok (.if_icmp .gt 7, 3) := by decide +kernel
theorem d_X10_told_10 : decode cX10_told 10 = .ok (.iconst 1, 1) := by decide +kernel
theorem d_X10_told_11 : decode cX10_told 11 = .ok (.goto 4, 3) := by decide +kernel
theorem d_X10_told_14 : decode cX10_told 14 = .ok (.iconst 0, 1) := by decide +kernel
theorem d_X10_told_15 : decode cX10_told 15 = .ok (.invokevirtual 104, 3) := by decide +kernel
theorem d_X10_told_18 : decode cX10_told 18 = .ok (.iload_n 1, 1) := by decide +kernel
theorem d_X10_told_19 : decode cX10_told 19 = .ok (.tableswitch 73 0 4 #[33, 41, 49, 57, 65], 33) := by decide +kernel
theorem d_X10_told_52 : decode cX10_told 52 = .ok (.aload_n 0, 1) := by decide +kernel
theorem d_X10_told_53 : decode cX10_told 53 = .ok (.getfield 19, 3) := by decide +kernel
theorem d_X10_told_56 : decode cX10_told 56 = .ok (.getfield 132, 3) := by decide +kernel
theorem d_X10_told_59 : decode cX10_told 59 = .ok (.ireturn, 1) := by decide +kernel
theorem d_X10_told_60 : decode cX10_told 60 = .ok (.aload_n 0, 1) := by decide +kernel
theorem d_X10_told_61 : decode cX10_told 61 = .ok (.getfield 19, 3) := by decide +kernel
theorem d_X10_told_64 : decode cX10_told 64 = .ok (.getfield 144, 3) := by decide +kernel
theorem d_X10_told_67 : decode cX10_told 67 = .ok (.ireturn, 1) := by decide +kernel
theorem d_X10_told_68 : decode cX10_told 68 = .ok (.aload_n 0, 1) := by decide +kernel
theorem d_X10_told_69 : decode cX10_told 69 = .ok (.getfield 19, 3) := by decide +kernel
theorem d_X10_told_72 : decode cX10_told 72 = .ok (.getfield 147, 3) := by decide +kernel
theorem d_X10_told_75 : decode cX10_told 75 = .ok (.ireturn, 1) := by decide +kernel
theorem d_X10_told_76 : decode cX10_told 76 = .ok (.aload_n 0, 1) := by decide +kernel
theorem d_X10_told_77 : decode cX10_told 77 = .ok (.getfield 19, 3) := by decide +kernel
theorem d_X10_told_80 : decode cX10_told 80 = .ok (.getfield 150, 3) := by decide +kernel
theorem d_X10_told_83 : decode cX10_told 83 = .ok (.ireturn, 1) := by decide +kernel
theorem d_X10_told_84 : decode cX10_told 84 = .ok (.aload_n 0, 1) := by decide +kernel
theorem d_X10_told_85 : decode cX10_told 85 = .ok (.getfield 29, 3) := by decide +kernel
theorem d_X10_told_88 : decode cX10_told 88 = .ok (.getfield 138, 3) := by decide +kernel
theorem d_X10_told_91 : decode cX10_told 91 = .ok (.ireturn, 1) := by decide +kernel
theorem d_X10_told_92 : decode cX10_told 92 = .ok (.aload_n 0, 1) := by decide +kernel
theorem d_X10_told_93 : decode cX10_told 93 = .ok (.getfield 19, 3) := by decide +kernel
theorem d_X10_told_96 : decode cX10_told 96 = .ok (.getfield 153, 3) := by decide +kernel
theorem d_X10_told_99 : decode cX10_told 99 = .ok (.ireturn, 1) := by decide +kernel
set_option maxRecDepth 100000 in
theorem L_X10_told {p : Program} {l : Launch} {e : Env} {s : State} {m : MethodId} {args : Array Value} {below : List Frame} {meth : Method} {c : Code} {D : va_G} {ca : Nat → ClassId} {ad sx sy : Nat → Nat} {A : Nat → Prop} {Q : QT} (hl0 : l.stackTraces = false) (C0 : CX p s m args meth c cX10_told 2 yX10_told.cls D ca ad A) (hE : EX sx sy A s s.heap) (hr : meth.sig.returnType = (some .int)) (hno : ∀ x ∈ c.exceptionTable.toList, False) : R_X10_told (JW p l e { frames := 11, cells := 1, slots := 6 * 1, locals := 221 } s m args below meth c 2 D ca ad A (vx_MQ below (Qn D ca ad A Q) (Qx D ca ad A Q) args s 1 (6 * 1) A) (gl [(15, 1)]) (gl6 [(15, 1)]) true) Q := ⟨s_aln C0 (d_X10_told_0) (hgq rfl) (s_iln C0 (d_X10_told_1) (hgq rfl) (s_zlt C0 (d_X10_told_2) (by decide) (hgq rfl) (hgq rfl) (fun _ _ _ h => h) (s_iln C0 (d_X10_told_5) (hgq rfl) (s_ic C0 (d_X10_told_6) (hgq rfl) (s_cgt C0 (d_X10_told_7) (by decide) (hgq rfl) (hgq rfl) (fun _ _ _ h => h) (s_ic C0 (d_X10_told_10) (hgq rfl) (s_goto C0 (tgt := 15) (d_X10_told_11) (by decide) (hgq rfl) (fun _ _ _ h => h)) (okn rfl))) (okn rfl))))),
  s_ic C0 (d_X10_told_14) (hgq rfl) (fun _ _ _ h => h) (okn rfl),
  s_callV C0 hE (c_X10_needArgument l hl0) wg563 wg560 wg562 ws13 wg1 ⟨by decide, by decide⟩ (by decide +kernel) (c0 := 10) rfl ⟨by decide, by decide⟩ ⟨by decide, by decide⟩ (d_X10_told_15) (fun x hx => (hno x hx).elim) ⟨by decide, by decide⟩ ⟨by decide, by decide⟩ (s_iln C0 (d_X10_told_18) (hgq rfl) (s_tab C0 (d_X10_told_19) (by decide) (by decide) (by decide) (by decide) (hgt rfl) (fun _ _ _ _ _ h => h))),
  s_aln C0 (d_X10_told_52) (hgq rfl) (s_gm C0 (j := 1) (c0 := 10) rfl gX10 (by decide) rfl rfl wg394 (d_X10_told_53) (hgq rfl) (s_giN C0 (j := 0) (c0 := 6) rfl gX6 (by decide) rfl (by decide) wn74 (d_X10_told_56) (hgq rfl) (s_ri C0 hr (d_X10_told_59) ⟨by decide, by decide⟩))),
  s_aln C0 (d_X10_told_60) (hgq rfl) (s_gm C0 (j := 1) (c0 := 10) rfl gX10 (by decide) rfl rfl wg394 (d_X10_told_61) (hgq rfl) (s_giN C0 (j := 3) (c0 := 6) rfl gX6 (by decide) rfl (by decide) wn90 (d_X10_told_64) (hgq rfl) (s_ri C0 hr (d_X10_told_67) ⟨by decide, by decide⟩))),
  s_aln C0 (d_X10_told_68) (hgq rfl) (s_gm C0 (j := 1) (c0 := 10) rfl gX10 (by decide) rfl rfl wg394 (d_X10_told_69) (hgq rfl) (s_giN C0 (j := 8) (c0 := 6) rfl gX6 (by decide) rfl (by decide) wn113 (d_X10_told_72) (hgq rfl) (s_ri C0 hr (d_X10_told_75) ⟨by decide, by decide⟩))),
  s_aln C0 (d_X10_told_76) (hgq rfl) (s_gm C0 (j := 1) (c0 := 10) rfl gX10 (by decide) rfl rfl wg394 (d_X10_told_77) (hgq rfl) (s_giN C0 (j := 10) (c0 := 6) rfl gX6 (by decide) rfl (by decide) wn117 (d_X10_told_80) (hgq rfl) (s_ri C0 hr (d_X10_told_83) ⟨by decide, by decide⟩))),
  s_aln C0 (d_X10_told_84) (hgq rfl) (s_gm C0 (j := 3) (c0 := 10) rfl gX10 (by decide) rfl rfl wg396 (d_X10_told_85) (hgq rfl) (s_giN C0 (j := 0) (c0 := 5) rfl gX5 (by decide) rfl (by decide) wn173 (d_X10_told_88) (hgq rfl) (s_ri C0 hr (d_X10_told_91) ⟨by decide, by decide⟩))),
  s_aln C0 (d_X10_told_92) (hgq rfl) (s_gm C0 (j := 1) (c0 := 10) rfl gX10 (by decide) rfl rfl wg394 (d_X10_told_93) (hgq rfl) (s_giN C0 (j := 14) (c0 := 6) rfl gX6 (by decide) rfl (by decide) wn132 (d_X10_told_96) (hgq rfl) (s_ri C0 hr (d_X10_told_99) ⟨by decide, by decide⟩)))⟩
theorem c_X10_told (l : Launch) (hl0 : l.stackTraces = false) : Ctr l yX10_told cX10_told 2 (some .int) 11 221 1 (fun sx => F_X10_told) := ctr_of (by decide) (gl [(15, 1)]) (gl6 [(15, 1)]) ⟨rfl, rfl⟩ (fun p e s m args below meth c D ca ad sx sy A Q as M C0 hE hr hno hF => P_X10_told (L_X10_told hl0 C0 hE hr hno) hF)
theorem d_X10_unlike_0 : decode cX10_unlike 0 = .ok (.aload_n 0, 1) := by decide +kernel
theorem d_X10_unlike_1 : decode cX10_unlike 1 = .ok (.iload_n 1, 1) := by decide +kernel
theorem d_X10_unlike_2 : decode cX10_unlike 2 = .ok (.invokestatic 215, 3) := by decide +kernel
theorem d_X10_unlike_5 : decode cX10_unlike 5 = .ok (.ifCond .eq 14, 3) := by decide +kernel
theorem d_X10_unlike_8 : decode cX10_unlike 8 = .ok (.iload_n 2, 1) := by decide +kernel
theorem d_X10_unlike_9 : decode cX10_unlike 9 = .ok (.invokestatic 215, 3) := by decide +kernel
theorem d_X10_unlike_12 : decode cX10_unlike 12 = .ok (.ifCond .eq 7, 3) := by decide +kernel
theorem d_X10_unlike_15 : decode cX10_unlike 15 = .ok (.iconst 1, 1) := by decide +kernel
theorem d_X10_unlike_16 : decode cX10_unlike 16 = .ok (.goto 4, 3) := by decide +kernel
theorem d_X10_unlike_19 : decode cX10_unlike 19 = .ok (.iconst 0, 1) := by decide +kernel
theorem d_X10_unlike_20 : decode cX10_unlike 20 = .ok (.invokevirtual 104, 3) := by decide +kernel
theorem d_X10_unlike_23 : decode cX10_unlike 23 = .ok (.aload_n 0, 1) := by decide +kernel
theorem d_X10_unlike_24 : decode cX10_unlike 24 = .ok (.invokevirtual 186, 3) := by decide +kernel
theorem d_X10_unlike_27 : decode cX10_unlike 27 = .ok (.iload_n 1, 1) := by decide +kernel
theorem d_X10_unlike_28 : decode cX10_unlike 28 = .ok (.invokevirtual 226, 3) := by decide +kernel
theorem d_X10_unlike_31 : decode cX10_unlike 31 = .ok (.aload_n 0, 1) := by decide +kernel
theorem d_X10_unlike_32 : decode cX10_unlike 32 = .ok (.invokevirtual 186, 3) := by decide +kernel
theorem d_X10_unlike_35 : decode cX10_unlike 35 = .ok (.iload_n 2, 1) := by decide +kernel
theorem d_X10_unlike_36 : decode cX10_unlike 36 = .ok (.invokevirtual 226, 3) := by decide +kernel
theorem d_X10_unlike_39 : decode cX10_unlike 39 = .ok (.ixor, 1) := by decide +kernel
theorem d_X10_unlike_40 : decode cX10_unlike 40 = .ok (.invokestatic 229, 3) := by decide +kernel
theorem d_X10_unlike_43 : decode cX10_unlike 43 = .ok (.ireturn, 1) := by decide +kernel
set_option maxRecDepth 100000 in
theorem L_X10_unlike {p : Program} {l : Launch} {e : Env} {s : State} {m : MethodId} {args : Array Value} {below : List Frame} {meth : Method} {c : Code} {D : va_G} {ca : Nat → ClassId} {ad sx sy : Nat → Nat} {A : Nat → Prop} {Q : QT} (hl0 : l.stackTraces = false) (C0 : CX p s m args meth c cX10_unlike 3 yX10_unlike.cls D ca ad A) (hE : EX sx sy A s s.heap) (hr : meth.sig.returnType = (some .int)) (hno : ∀ x ∈ c.exceptionTable.toList, False) : R_X10_unlike (JW p l e { frames := 16, cells := 1, slots := 6 * 1, locals := 336 } s m args below meth c 3 D ca ad A (vx_MQ below (Qn D ca ad A Q) (Qx D ca ad A Q) args s 1 (6 * 1) A) (gl [(20, 1)]) (gl6 [(20, 1)]) true) Q := ⟨s_aln C0 (d_X10_unlike_0) (hgq rfl) (s_iln C0 (d_X10_unlike_1) (hgq rfl) (s_callS C0 hE (c_X10_isLaw l) wg972 wg970 wg971 wg1 ⟨by decide, by decide⟩ (by decide +kernel) ⟨by decide, by decide⟩ ⟨by decide, by decide⟩ (d_X10_unlike_2) (fun x hx => (hno x hx).elim) ⟨by decide, by decide⟩ ⟨by decide, by decide⟩ (s_zeq C0 (d_X10_unlike_5) (by decide) (hgq rfl) (hgq rfl) (fun _ _ _ h => h) (s_iln C0 (d_X10_unlike_8) (hgq rfl) (s_callS C0 hE (c_X10_isLaw l) wg972 wg970 wg971 wg1 ⟨by decide, by decide⟩ (by decide +kernel) ⟨by decide, by decide⟩ ⟨by decide, by decide⟩ (d_X10_unlike_9) (fun x hx => (hno x hx).elim) ⟨by decide, by decide⟩ ⟨by decide, by decide⟩ (s_zeq C0 (d_X10_unlike_12) (by decide) (hgq rfl) (hgq rfl) (fun _ _ _ h => h) (s_ic C0 (d_X10_unlike_15) (hgq rfl) (s_goto C0 (tgt := 20) (d_X10_unlike_16) (by decide) (hgq rfl) (fun _ _ _ h => h)) (okn rfl)))))))),
  s_ic C0 (d_X10_unlike_19) (hgq rfl) (fun _ _ _ h => h) (okn rfl),
  s_callV C0 hE (c_X10_needArgument l hl0) wg563 wg560 wg562 ws13 wg1 ⟨by decide, by decide⟩ (by decide +kernel) (c0 := 10) rfl ⟨by decide, by decide⟩ ⟨by decide, by decide⟩ (d_X10_unlike_20) (fun x hx => (hno x hx).elim) ⟨by decide, by decide⟩ ⟨by decide, by decide⟩ (s_aln C0 (d_X10_unlike_23) (hgq rfl) (s_callV C0 hE (c_X10_chronicled l) wg844 wg841 wg843 ws38 wg1 ⟨by decide, by decide⟩ (by decide +kernel) (c0 := 10) rfl ⟨by decide, by decide⟩ ⟨by decide, by decide⟩ (d_X10_unlike_24) (fun x hx => (hno x hx).elim) ⟨by decide, by decide⟩ ⟨by decide, by decide⟩ (s_iln C0 (d_X10_unlike_27) (hgq rfl) (s_callVN C0 hE (c_X3_passedBits l) wg992 wn989 wg991 ws60 wg6 ⟨by decide, by decide⟩ (by decide +kernel) (c0 := 3) rfl ⟨by decide, by decide⟩ ⟨by decide, by decide⟩ (d_X10_unlike_28) (fun x hx => (hno x hx).elim) ⟨by decide, by decide⟩ ⟨by decide, by decide⟩ (s_aln C0 (d_X10_unlike_31) (hgq rfl) (s_callV C0 hE (c_X10_chronicled l) wg844 wg841 wg843 ws38 wg1 ⟨by decide, by decide⟩ (by decide +kernel) (c0 := 10) rfl ⟨by decide, by decide⟩ ⟨by decide, by decide⟩ (d_X10_unlike_32) (fun x hx => (hno x hx).elim) ⟨by decide, by decide⟩ ⟨by decide, by decide⟩ (s_iln C0 (d_X10_unlike_35) (hgq rfl) (s_callVN C0 hE (c_X3_passedBits l) wg992 wn989 wg991 ws60 wg6 ⟨by decide, by decide⟩ (by decide +kernel) (c0 := 3) rfl ⟨by decide, by decide⟩ ⟨by decide, by decide⟩ (d_X10_unlike_36) (fun x hx => (hno x hx).elim) ⟨by decide, by decide⟩ ⟨by decide, by decide⟩ (s_xor C0 (d_X10_unlike_39) (hgq rfl) (s_callS C0 hE (c_J6_bitCount_0f7a4 l) wg481 wg479 wg480 wg24 ⟨by decide, by decide⟩ (by decide +kernel) ⟨by decide, by decide⟩ ⟨by decide, by decide⟩ (d_X10_unlike_40) (fun x hx => (hno x hx).elim) ⟨by decide, by decide⟩ ⟨by decide, by decide⟩ (s_ri C0 hr (d_X10_unlike_43) ⟨by decide, by decide⟩)))))))))))⟩
theorem c_X10_unlike (l : Launch) (hl0 : l.stackTraces = false) : Ctr l yX10_unlike cX10_unlike 3 (some .int) 16 336 1 (fun sx => F_X10_unlike) := ctr_of (by decide) (gl [(20, 1)]) (gl6 [(20, 1)]) ⟨rfl, rfl⟩ (fun p e s m args below meth c D ca ad sx sy A Q as M C0 hE hr hno hF => P_X10_unlike (L_X10_unlike hl0 C0 hE hr hno) hF)
theorem d_X6_hasPersons_0 : decode cX6_hasPersons 0 = .ok (.iload_n 1, 1) := by decide +kernel
theorem d_X6_hasPersons_1 : decode cX6_hasPersons 1 = .ok (.ifCond .lt 15, 3) := by decide +kernel
theorem d_X6_hasPersons_4 : decode cX6_hasPersons 4 = .ok (.iload_n 1, 1) := by decide +kernel
theorem d_X6_hasPersons_5 : decode cX6_hasPersons 5 = .ok (.aload_n 0, 1) := by decide +kernel
theorem d_X6_hasPersons_6 : decode cX6_hasPersons 6 = .ok (.invokevirtual 118, 3) := by decide +kernel
theorem d_X6_hasPersons_9 : decode cX6_hasPersons 9 = .ok (.if_icmp .gt 7, 3) := by decide +kernel
theorem d_X6_hasPersons_12 : decode cX6_hasPersons 12 = .ok (.iconst 1, 1) := by decide +kernel
theorem d_X6_hasPersons_13 : decode cX6_hasPersons 13 = .ok (.goto 4, 3) := by decide +kernel
theorem d_X6_hasPersons_16 : decode cX6_hasPersons 16 = .ok (.iconst 0, 1) := by decide +kernel
theorem d_X6_hasPersons_17 : decode cX6_hasPersons 17 = .ok (.ireturn, 1) := by decide +kernel
set_option maxRecDepth 100000 in
theorem L_X6_hasPersons {p : Program} {l : Launch} {e : Env} {s : State} {m : MethodId} {args : Array Value} {below : List Frame} {meth : Method} {c : Code} {D : va_G} {ca : Nat → ClassId} {ad sx sy : Nat → Nat} {A : Nat → Prop} {Q : QT} (C0 : CX p s m args meth c cX6_hasPersons 2 yX6_hasPersons.cls D ca ad A) (hE : EX sx sy A s s.heap) (hr : meth.sig.returnType = (some .boolean)) (hno : ∀ x ∈ c.exceptionTable.toList, False) : R_X6_hasPersons (JW p l e { frames := 11, cells := 0, slots := 6 * 0, locals := 220 } s m args below meth c 2 D ca ad A (vx_MQ below (Qn D ca ad A Q) (Qx D ca ad A Q) args s 0 (6 * 0) A) gz gz true) Q := ⟨s_iln C0 (d_X6_hasPersons_0) hgz (s_zlt C0 (d_X6_hasPersons_1) (by decide) hgz hgz (fun _ _ _ h => h) (s_iln C0 (d_X6_hasPersons_4) hgz (s_aln C0 (d_X6_hasPersons_5) hgz (s_callV C0 hE (c_X6_allPersons l) wg751 wg748 wg750 ws29 wg3 ⟨by decide, by decide⟩ (by decide +kernel) (c0 := 6) rfl ⟨by decide, by decide⟩ ⟨by decide, by decide⟩ (d_X6_hasPersons_6) (fun x hx => (hno x hx).elim) ⟨by decide, by decide⟩ ⟨by decide, by decide⟩ (s_cgt C0 (d_X6_hasPersons_9) (by decide) hgz hgz (fun _ _ _ h => h) (s_ic C0 (d_X6_hasPersons_12) hgz (s_goto C0 (tgt := 17) (d_X6_hasPersons_13) (by decide) hgz (fun _ _ _ h => h)) (okn rfl))))))),
  s_ic C0 (d_X6_hasPersons_16) hgz (fun _ _ _ h => h) (okn rfl),
  s_rz C0 hr (d_X6_hasPersons_17) ⟨by decide, by decide⟩⟩
theorem c_X6_hasPersons (l : Launch) : Ctr l yX6_hasPersons cX6_hasPersons 2 (some .boolean) 11 220 0 (fun sx => (nf G_X6_hasPersons)) := ctr_of (by decide) gz gz ⟨rfl, rfl⟩ (fun p e s m args below meth c D ca ad sx sy A Q as M C0 hE hr hno hF => P_X6_hasPersons (L_X6_hasPersons C0 hE hr hno) hF)
theorem wg1127 : Cond.code ⟨"WeighedHall$Plan", "hasPersons", "(I)Z"⟩ prog_8_method_13_code 2 (Option.some .boolean) ∈ GT := gt_mem 1247 (by decide +kernel) rfl
theorem wn1124 : Cond.methodLinkNest "WeighedHall" 288 ⟨"WeighedHall$Plan", "hasPersons", "(I)Z"⟩ "WeighedHall" ∈ NT := nt_mem 1124 (by decide +kernel) rfl
theorem wg1126 : Cond.instanceMethod ⟨"WeighedHall$Plan", "hasPersons", "(I)Z"⟩ ∈ GT := gt_mem 1246 (by decide +kernel) rfl
theorem ws72 : Cond.selects "WeighedHall$Plan" ⟨"WeighedHall$Plan", "hasPersons", "(I)Z"⟩ ⟨"WeighedHall$Plan", "hasPersons", "(I)Z"⟩ ∈ GT := gt_mem 72 (by decide +kernel) rfl
theorem wg1131 : Cond.code ⟨"WeighedHall$Ballots", "add", "(III)V"⟩ prog_2_method_3_code 4 (Option.none : Option FieldType) ∈ GT := gt_mem 1251 (by decide +kernel) rfl
theorem wn1128 : Cond.methodLinkNest "WeighedHall" 292 ⟨"WeighedHall$Ballots", "add", "(III)V"⟩ "WeighedHall" ∈ NT := nt_mem 1128 (by decide +kernel) rfl
theorem wg1130 : Cond.instanceMethod ⟨"WeighedHall$Ballots", "add", "(III)V"⟩ ∈ GT := gt_mem 1250 (by decide +kernel) rfl
theorem ws73 : Cond.selects "WeighedHall$Ballots" ⟨"WeighedHall$Ballots", "add", "(III)V"⟩ ⟨"WeighedHall$Ballots", "add", "(III)V"⟩ ∈ GT := gt_mem 73 (by decide +kernel) rfl
theorem d_X10_vote_0 : decode cX10_vote 0 = .ok (.aload_n 0, 1) := by decide +kernel
theorem d_X10_vote_1 : decode cX10_vote 1 = .ok (.aload_n 0, 1) := by decide +kernel
theorem d_X10_vote_2 : decode cX10_vote 2 = .ok (.getfield 19, 3) := by decide +kernel
theorem d_X10_vote_5 : decode cX10_vote 5 = .ok (.iload_n 1, 1) := by decide +kernel
theorem d_X10_vote_6 : decode cX10_vote 6 = .ok (.invokevirtual 288, 3) := by decide +kernel
theorem d_X10_vote_9 : decode cX10_vote 9 = .ok (.ifCond .eq 38, 3) := by decide +kernel
theorem d_X10_vote_12 : decode cX10_vote 12 = .ok (.aload_n 0, 1) := by decide +kernel
theorem d_X10_vote_13 : decode cX10_vote 13 = .ok (.getfield 19, 3) := by decide +kernel
theorem d_X10_vote_16 : decode cX10_vote 16 = .ok (.iload_n 2, 1) := by decide +kernel
theorem d_X10_vote_17 : decode cX10_vote 17 = .ok (.invokevirtual 288, 3) := by decide +kernel
theorem d_X10_vote_20 : decode cX10_vote 20 = .ok (.ifCond .eq 27, 3) := by decide +kernel
theorem d_X10_vote_23 : decode cX10_vote 23 = .ok (.iload_n 1, 1) := by decide +kernel
theorem d_X10_vote_24 : decode cX10_vote 24 = .ok (.iload_n 2, 1) := by decide +kernel
theorem d_X10_vote_25 : decode cX10_vote 25 = .ok (.iand, 1) := by decide +kernel
theorem d_X10_vote_26 : decode cX10_vote 26 = .ok (.ifCond .ne 21, 3) := by decide +kernel
theorem d_X10_vote_29 : decode cX10_vote 29 = .ok (.iload_n 3, 1) := by decide +kernel
theorem d_X10_vote_30 : decode cX10_vote 30 = .ok (.sipush (-9999), 3) := by decide +kernel
theorem d_X10_vote_33 : decode cX10_vote 33 = .ok (.if_icmp .lt 14, 3) := by decide +kernel
theorem d_X10_vote_36 : decode cX10_vote 36 = .ok (.iload_n 3, 1) := by decide +kernel
theorem d_X10_vote_37 : decode cX10_vote 37 = .ok (.sipush 9999, 3) := by decide +kernel
theorem d_X10_vote_40 : decode cX10_vote 40 = .ok (.if_icmp .gt 7, 3) := by decide +kernel
theorem d_X10_vote_43 : decode cX10_vote 43 = .ok (.iconst 1, 1) := by decide +kernel
theorem d_X10_vote_44 : decode cX10_vote 44 = .ok (.goto 4, 3) := by decide +kernel
theorem d_X10_vote_47 : decode cX10_vote 47 = .ok (.iconst 0, 1) := by decide +kernel
theorem d_X10_vote_48 : decode cX10_vote 48 = .ok (.invokevirtual 104, 3) := by decide +kernel
theorem d_X10_vote_51 : decode cX10_vote 51 = .ok (.aload_n 0, 1) := by decide +kernel
theorem d_X10_vote_52 : decode cX10_vote 52 = .ok (.getfield 39, 3) := by decide +kernel
theorem d_X10_vote_55 : decode cX10_vote 55 = .ok (.getfield 291, 3) := by decide +kernel
theorem d_X10_vote_58 : decode cX10_vote 58 = .ok (.bipush 9, 2) := by decide +kernel
theorem d_X10_vote_60 : decode cX10_vote 60 = .ok (.if_icmp .lt 5, 3) := by decide +kernel
theorem d_X10_vote_63 : decode cX10_vote 63 = .ok (.iconst (-1), 1) := by decide +kernel
theorem d_X10_vote_64 : decode cX10_vote 64 = .ok (.ireturn, 1) := by decide +kernel
theorem d_X10_vote_65 : decode cX10_vote 65 = .ok (.aload_n 0, 1) := by decide +kernel
theorem d_X10_vote_66 : decode cX10_vote 66 = .ok (.getfield 39, 3) := by decide +kernel
theorem d_X10_vote_69 : decode cX10_vote 69 = .ok (.iload_n 1, 1) := by decide +kernel
theorem d_X10_vote_70 : decode cX10_vote 70 = .ok (.iload_n 2, 1) := by decide +kernel
theorem d_X10_vote_71 : decode cX10_vote 71 = .ok (.iload_n 3, 1) := by decide +kernel
theorem d_X10_vote_72 : decode cX10_vote 72 = .ok (.invokevirtual 292, 3) := by decide +kernel
theorem d_X10_vote_75 : decode cX10_vote 75 = .ok (.aload_n 0, 1) := by decide +kernel
theorem d_X10_vote_76 : decode cX10_vote 76 = .ok (.invokevirtual 129, 3) := by decide +kernel
theorem d_X10_vote_79 : decode cX10_vote 79 = .ok (.aload_n 0, 1) := by decide +kernel
theorem d_X10_vote_80 : decode cX10_vote 80 = .ok (.getfield 39, 3) := by decide +kernel
theorem d_X10_vote_83 : decode cX10_vote 83 = .ok (.getfield 291, 3) := by decide +kernel
theorem d_X10_vote_86 : decode cX10_vote 86 = .ok (.ireturn, 1) := by decide +kernel
set_option maxRecDepth 100000 in
theorem L_X10_vote {p : Program} {l : Launch} {e : Env} {s : State} {m : MethodId} {args : Array Value} {below : List Frame} {meth : Method} {c : Code} {D : va_G} {ca : Nat → ClassId} {ad sx sy : Nat → Nat} {A : Nat → Prop} {Q : QT} (hl0 : l.stackTraces = false) (C0 : CX p s m args meth c cX10_vote 4 yX10_vote.cls D ca ad A) (hE : EX sx sy A s s.heap) (hr : meth.sig.returnType = (some .int)) (hno : ∀ x ∈ c.exceptionTable.toList, False) : R_X10_vote (JW p l e { frames := 12, cells := 1, slots := 6 * 1, locals := 241 } s m args below meth c 4 D ca ad A (vx_MQ below (Qn D ca ad A Q) (Qx D ca ad A Q) args s 1 (6 * 1) A) (gl [(48, 1)]) (gl6 [(48, 1)]) true) Q := ⟨s_aln C0 (d_X10_vote_0) (hgq rfl) (s_aln C0 (d_X10_vote_1) (hgq rfl) (s_gm C0 (j := 1) (c0 := 10) rfl gX10 (by decide) rfl rfl wg394 (d_X10_vote_2) (hgq rfl) (s_iln C0 (d_X10_vote_5) (hgq rfl) (s_callVN C0 hE (c_X6_hasPersons l) wg1127 wn1124 wg1126 ws72 wg3 ⟨by decide, by decide⟩ (by decide +kernel) (c0 := 6) rfl ⟨by decide, by decide⟩ ⟨by decide, by decide⟩ (d_X10_vote_6) (fun x hx => (hno x hx).elim) ⟨by decide, by decide⟩ ⟨by decide, by decide⟩ (s_zeq C0 (d_X10_vote_9) (by decide) (hgq rfl) (hgq rfl) (fun _ _ _ h => h) (s_aln C0 (d_X10_vote_12) (hgq rfl) (s_gm C0 (j := 1) (c0 := 10) rfl gX10 (by decide) rfl rfl wg394 (d_X10_vote_13) (hgq rfl) (s_iln C0 (d_X10_vote_16) (hgq rfl) (s_callVN C0 hE (c_X6_hasPersons l) wg1127 wn1124 wg1126 ws72 wg3 ⟨by decide, by decide⟩ (by decide +kernel) (c0 := 6) rfl ⟨by decide, by decide⟩ ⟨by decide, by decide⟩ (d_X10_vote_17) (fun x hx => (hno x hx).elim) ⟨by decide, by decide⟩ ⟨by decide, by decide⟩ (s_zeq C0 (d_X10_vote_20) (by decide) (hgq rfl) (hgq rfl) (fun _ _ _ h => h) (s_iln C0 (d_X10_vote_23) (hgq rfl) (s_iln C0 (d_X10_vote_24) (hgq rfl) (s_and C0 (d_X10_vote_25) (hgq rfl) (s_zne C0 (d_X10_vote_26) (by decide) (hgq rfl) (hgq rfl) (fun _ _ _ h => h) (s_iln C0 (d_X10_vote_29) (hgq rfl) (s_si C0 (d_X10_vote_30) (hgq rfl) (s_clt C0 (d_X10_vote_33) (by decide) (hgq rfl) (hgq rfl) (fun _ _ _ h => h) (s_iln C0 (d_X10_vote_36) (hgq rfl) (s_si C0 (d_X10_vote_37) (hgq rfl) (s_cgt C0 (d_X10_vote_40) (by decide) (hgq rfl) (hgq rfl) (fun _ _ _ h => h) (s_ic C0 (d_X10_vote_43) (hgq rfl) (s_goto C0 (tgt := 48) (d_X10_vote_44) (by decide) (hgq rfl) (fun _ _ _ h => h)) (okn rfl))) (okn rfl) rfl))) (okn rfl) rfl)))))))))))))))),
  s_ic C0 (d_X10_vote_47) (hgq rfl) (fun _ _ _ h => h) (okn rfl),
  s_callV C0 hE (c_X10_needArgument l hl0) wg563 wg560 wg562 ws13 wg1 ⟨by decide, by decide⟩ (by decide +kernel) (c0 := 10) rfl ⟨by decide, by decide⟩ ⟨by decide, by decide⟩ (d_X10_vote_48) (fun x hx => (hno x hx).elim) ⟨by decide, by decide⟩ ⟨by decide, by decide⟩ (s_aln C0 (d_X10_vote_51) (hgq rfl) (s_gr C0 (j := 5) (c0 := 10) rfl gX10 (by decide) rfl rfl wg398 (d_X10_vote_52) (hgq rfl) (s_giN C0 (j := 0) (c0 := 0) rfl gX0 (by decide) rfl (by decide) wn202 (d_X10_vote_55) (hgq rfl) (s_bi C0 (d_X10_vote_58) (hgq rfl) (s_clt C0 (d_X10_vote_60) (by decide) (hgq rfl) (hgq rfl) (fun _ _ _ h => h) (s_ic C0 (d_X10_vote_63) (hgq rfl) (s_ri C0 hr (d_X10_vote_64) ⟨by decide, by decide⟩) (okn rfl))) (okn rfl) rfl)))),
  s_aln C0 (d_X10_vote_65) (hgq rfl) (s_gr C0 (j := 5) (c0 := 10) rfl gX10 (by decide) rfl rfl wg398 (d_X10_vote_66) (hgq rfl) (s_iln C0 (d_X10_vote_69) (hgq rfl) (s_iln C0 (d_X10_vote_70) (hgq rfl) (s_iln C0 (d_X10_vote_71) (hgq rfl) (s_callVN C0 hE (c_X0_add l) wg1131 wn1128 wg1130 ws73 wg5 ⟨by decide, by decide⟩ (by decide +kernel) (c0 := 0) rfl ⟨by decide, by decide⟩ ⟨by decide, by decide⟩ (d_X10_vote_72) (fun x hx => (hno x hx).elim) ⟨by decide, by decide⟩ ⟨by decide, by decide⟩ (s_aln C0 (d_X10_vote_75) (hgq rfl) (s_callV C0 hE (c_X10_startAnew l) wg523 wg520 wg522 ws10 wg1 ⟨by decide, by decide⟩ (by decide +kernel) (c0 := 10) rfl ⟨by decide, by decide⟩ ⟨by decide, by decide⟩ (d_X10_vote_76) (fun x hx => (hno x hx).elim) ⟨by decide, by decide⟩ ⟨by decide, by decide⟩ (s_aln C0 (d_X10_vote_79) (hgq rfl) (s_gr C0 (j := 5) (c0 := 10) rfl gX10 (by decide) rfl rfl wg398 (d_X10_vote_80) (hgq rfl) (s_giN C0 (j := 0) (c0 := 0) rfl gX0 (by decide) rfl (by decide) wn202 (d_X10_vote_83) (hgq rfl) (s_ri C0 hr (d_X10_vote_86) ⟨by decide, by decide⟩)))))))))))⟩
theorem c_X10_vote (l : Launch) (hl0 : l.stackTraces = false) : Ctr l yX10_vote cX10_vote 4 (some .int) 12 241 1 (fun sx => F_X10_vote) := ctr_of (by decide) (gl [(48, 1)]) (gl6 [(48, 1)]) ⟨rfl, rfl⟩ (fun p e s m args below meth c D ca ad sx sy A Q as M C0 hE hr hno hF => P_X10_vote (L_X10_vote hl0 C0 hE hr hno) hF)
theorem wn1074 : Cond.methodLinkNest "WeighedHall" 269 ⟨"WeighedHall$Scales", "isWinning", "(I)Z"⟩ "WeighedHall" ∈ NT := nt_mem 1074 (by decide +kernel) rfl
theorem d_X10_wins_0 : decode cX10_wins 0 = .ok (.aload_n 0, 1) := by decide +kernel
theorem d_X10_wins_1 : decode cX10_wins 1 = .ok (.iload_n 1, 1) := by decide +kernel
theorem d_X10_wins_2 : decode cX10_wins 2 = .ok (.ifCond .lt 13, 3) := by decide +kernel
theorem d_X10_wins_5 : decode cX10_wins 5 = .ok (.iload_n 1, 1) := by decide +kernel
theorem d_X10_wins_6 : decode cX10_wins 6 = .ok (.bipush 16, 2) := by decide +kernel
theorem d_X10_wins_8 : decode cX10_wins 8 = .ok (.if_icmp .ge 7, 3) := by decide +kernel
theorem d_X10_wins_11 : decode cX10_wins 11 = .ok (.iconst 1, 1) := by decide +kernel
theorem d_X10_wins_12 : decode cX10_wins 12 = .ok (.goto 4, 3) := by decide +kernel
theorem d_X10_wins_15 : decode cX10_wins 15 = .ok (.iconst 0, 1) := by decide +kernel
theorem d_X10_wins_16 : decode cX10_wins 16 = .ok (.invokevirtual 104, 3) := by decide +kernel
theorem d_X10_wins_19 : decode cX10_wins 19 = .ok (.aload_n 0, 1) := by decide +kernel
theorem d_X10_wins_20 : decode cX10_wins 20 = .ok (.getfield 85, 3) := by decide +kernel
theorem d_X10_wins_23 : decode cX10_wins 23 = .ok (.aload_n 0, 1) := by decide +kernel
theorem d_X10_wins_24 : decode cX10_wins 24 = .ok (.getfield 19, 3) := by decide +kernel
theorem d_X10_wins_27 : decode cX10_wins 27 = .ok (.invokevirtual 266, 3) := by decide +kernel
theorem d_X10_wins_30 : decode cX10_wins 30 = .ok (.aload_n 0, 1) := by decide +kernel
theorem d_X10_wins_31 : decode cX10_wins 31 = .ok (.getfield 85, 3) := by decide +kernel
theorem d_X10_wins_34 : decode cX10_wins 34 = .ok (.iload_n 1, 1) := by decide +kernel
theorem d_X10_wins_35 : decode cX10_wins 35 = .ok (.invokevirtual 269, 3) := by decide +kernel
theorem d_X10_wins_38 : decode cX10_wins 38 = .ok (.ireturn, 1) := by decide +kernel
set_option maxRecDepth 100000 in
theorem L_X10_wins {p : Program} {l : Launch} {e : Env} {s : State} {m : MethodId} {args : Array Value} {below : List Frame} {meth : Method} {c : Code} {D : va_G} {ca : Nat → ClassId} {ad sx sy : Nat → Nat} {A : Nat → Prop} {Q : QT} (hl0 : l.stackTraces = false) (C0 : CX p s m args meth c cX10_wins 2 yX10_wins.cls D ca ad A) (hE : EX sx sy A s s.heap) (hr : meth.sig.returnType = (some .boolean)) (hno : ∀ x ∈ c.exceptionTable.toList, False) : R_X10_wins (JW p l e { frames := 12, cells := 1, slots := 6 * 1, locals := 246 } s m args below meth c 2 D ca ad A (vx_MQ below (Qn D ca ad A Q) (Qx D ca ad A Q) args s 1 (6 * 1) A) (gl [(16, 1)]) (gl6 [(16, 1)]) true) Q := ⟨s_aln C0 (d_X10_wins_0) (hgq rfl) (s_iln C0 (d_X10_wins_1) (hgq rfl) (s_zlt C0 (d_X10_wins_2) (by decide) (hgq rfl) (hgq rfl) (fun _ _ _ h => h) (s_iln C0 (d_X10_wins_5) (hgq rfl) (s_bi C0 (d_X10_wins_6) (hgq rfl) (s_cge C0 (d_X10_wins_8) (by decide) (hgq rfl) (hgq rfl) (fun _ _ _ h => h) (s_ic C0 (d_X10_wins_11) (hgq rfl) (s_goto C0 (tgt := 16) (d_X10_wins_12) (by decide) (hgq rfl) (fun _ _ _ h => h)) (okn rfl))) (okn rfl) rfl)))),
  s_ic C0 (d_X10_wins_15) (hgq rfl) (fun _ _ _ h => h) (okn rfl),
  s_callV C0 hE (c_X10_needArgument l hl0) wg563 wg560 wg562 ws13 wg1 ⟨by decide, by decide⟩ (by decide +kernel) (c0 := 10) rfl ⟨by decide, by decide⟩ ⟨by decide, by decide⟩ (d_X10_wins_16) (fun x hx => (hno x hx).elim) ⟨by decide, by decide⟩ ⟨by decide, by decide⟩ (s_aln C0 (d_X10_wins_19) (hgq rfl) (s_gr C0 (j := 14) (c0 := 10) rfl gX10 (by decide) rfl rfl wg407 (d_X10_wins_20) (hgq rfl) (s_aln C0 (d_X10_wins_23) (hgq rfl) (s_gm C0 (j := 1) (c0 := 10) rfl gX10 (by decide) rfl rfl wg394 (d_X10_wins_24) (hgq rfl) (s_callVN C0 hE (c_X7_weighParties l) wg503 wn500 wg502 ws6 wg10 ⟨by decide, by decide⟩ (by decide +kernel) (c0 := 7) rfl ⟨by decide, by decide⟩ ⟨by decide, by decide⟩ (d_X10_wins_27) (fun x hx => (hno x hx).elim) ⟨by decide, by decide⟩ ⟨by decide, by decide⟩ (s_aln C0 (d_X10_wins_30) (hgq rfl) (s_gr C0 (j := 14) (c0 := 10) rfl gX10 (by decide) rfl rfl wg407 (d_X10_wins_31) (hgq rfl) (s_iln C0 (d_X10_wins_34) (hgq rfl) (s_callVN C0 hE (c_X7_isWinning l) wg511 wn1074 wg510 ws8 wg10 ⟨by decide, by decide⟩ (by decide +kernel) (c0 := 7) rfl ⟨by decide, by decide⟩ ⟨by decide, by decide⟩ (d_X10_wins_35) (fun x hx => (hno x hx).elim) ⟨by decide, by decide⟩ ⟨by decide, by decide⟩ (s_rz C0 hr (d_X10_wins_38) ⟨by decide, by decide⟩))))))))))⟩
theorem c_X10_wins (l : Launch) (hl0 : l.stackTraces = false) : Ctr l yX10_wins cX10_wins 2 (some .boolean) 12 246 1 (fun sx => F_X10_wins) := ctr_of (by decide) (gl [(16, 1)]) (gl6 [(16, 1)]) ⟨rfl, rfl⟩ (fun p e s m args below meth c D ca ad sx sy A Q as M C0 hE hr hno hF => P_X10_wins (L_X10_wins hl0 C0 hE hr hno) hF)
theorem wg1216 : Cond.fieldLink "WeighedHallModel" 37 "WeighedHallModel" "thing" "[[I" ∈ GT := gt_mem 1336 (by decide +kernel) rfl
theorem wg1212 : Cond.fieldLink "WeighedHallModel" 23 "WeighedHallModel" "told" "[I" ∈ GT := gt_mem 1332 (by decide +kernel) rfl
theorem d_X11_all_0 : decode cX11_all 0 = .ok (.iconst 0, 1) := by decide +kernel
theorem d_X11_all_1 : decode cX11_all 1 = .ok (.istore_n 1, 1) := by decide +kernel
theorem d_X11_all_2 : decode cX11_all 2 = .ok (.iconst 0, 1) := by decide +kernel
theorem d_X11_all_3 : decode cX11_all 3 = .ok (.istore_n 2, 1) := by decide +kernel
theorem d_X11_all_4 : decode cX11_all 4 = .ok (.iload_n 2, 1) := by decide +kernel
theorem d_X11_all_5 : decode cX11_all 5 = .ok (.aload_n 0, 1) := by decide +kernel
theorem d_X11_all_6 : decode cX11_all 6 = .ok (.getfield 23, 3) := by decide +kernel
theorem d_X11_all_9 : decode cX11_all 9 = .ok (.iconst 1, 1) := by decide +kernel
theorem d_X11_all_10 : decode cX11_all 10 = .ok (.iaload, 1) := by decide +kernel
theorem d_X11_all_11 : decode cX11_all 11 = .ok (.if_icmp .ge 20, 3) := by decide +kernel
theorem d_X11_all_14 : decode cX11_all 14 = .ok (.iload_n 1, 1) := by decide +kernel
theorem d_X11_all_15 : decode cX11_all 15 = .ok (.aload_n 0, 1) := by decide +kernel
theorem d_X11_all_16 : decode cX11_all 16 = .ok (.getfield 37, 3) := by decide +kernel
theorem d_X11_all_19 : decode cX11_all 19 = .ok (.iload_n 2, 1) := by decide +kernel
theorem d_X11_all_20 : decode cX11_all 20 = .ok (.aaload, 1) := by decide +kernel
theorem d_X11_all_21 : decode cX11_all 21 = .ok (.iconst 1, 1) := by decide +kernel
theorem d_X11_all_22 : decode cX11_all 22 = .ok (.iaload, 1) := by decide +kernel
theorem d_X11_all_23 : decode cX11_all 23 = .ok (.iadd, 1) := by decide +kernel
theorem d_X11_all_24 : decode cX11_all 24 = .ok (.istore_n 1, 1) := by decide +kernel
theorem d_X11_all_25 : decode cX11_all 25 = .ok (.iinc 2 1, 3) := by decide +kernel
theorem d_X11_all_28 : decode cX11_all 28 = .ok (.goto (-24), 3) := by decide +kernel
theorem d_X11_all_31 : decode cX11_all 31 = .ok (.iload_n 1, 1) := by decide +kernel
theorem d_X11_all_32 : decode cX11_all 32 = .ok (.ireturn, 1) := by decide +kernel
set_option maxRecDepth 100000 in
theorem L_X11_all {p : Program} {l : Launch} {e : Env} {s : State} {m : MethodId} {args : Array Value} {below : List Frame} {meth : Method} {c : Code} {D : va_G} {ca : Nat → ClassId} {ad sx sy : Nat → Nat} {A : Nat → Prop} {Q : QT} (C0 : CX p s m args meth c cX11_all 3 yX11_all.cls D ca ad A) (hE : EX sx sy A s s.heap) (hr : meth.sig.returnType = (some .int)) (hno : ∀ x ∈ c.exceptionTable.toList, False) : R_X11_all (JW p l e { frames := 10, cells := 0, slots := 6 * 0, locals := 200 } s m args below meth c 3 D ca ad A (vx_MQ below (Qn D ca ad A Q) (Qx D ca ad A Q) args s 0 (6 * 0) A) gz gz true) Q := ⟨s_ic C0 (d_X11_all_0) hgz (s_isn C0 (d_X11_all_1) hgz (s_ic C0 (d_X11_all_2) hgz (s_isn C0 (d_X11_all_3) hgz (fun _ _ _ h => h)) (okn rfl))) (okn rfl),
  s_iln C0 (d_X11_all_4) hgz (s_aln C0 (d_X11_all_5) hgz (s_gr C0 (j := 11) (c0 := 11) rfl gX11 (by decide) rfl rfl wg1212 (d_X11_all_6) hgz (s_ic C0 (d_X11_all_9) hgz (s_ia C0 (d_X11_all_10) hgz (s_cge C0 (d_X11_all_11) (by decide) hgz hgz (fun _ _ _ h => h) (s_iln C0 (d_X11_all_14) hgz (s_aln C0 (d_X11_all_15) hgz (s_gr C0 (j := 15) (c0 := 11) rfl gX11 (by decide) rfl rfl wg1216 (d_X11_all_16) hgz (s_iln C0 (d_X11_all_19) hgz (s_aa C0 (by decide) (by decide) rfl rfl (d_X11_all_20) hgz (s_ic C0 (d_X11_all_21) hgz (s_ia C0 (d_X11_all_22) hgz (s_add C0 (d_X11_all_23) hgz (s_isn C0 (d_X11_all_24) hgz (s_inc C0 (d_X11_all_25) hgz (s_goto C0 (tgt := 4) (d_X11_all_28) (by decide) hgz (fun _ _ _ h => h)))))) (okn rfl))))))))) (okn rfl)))),
  s_iln C0 (d_X11_all_31) hgz (s_ri C0 hr (d_X11_all_32) ⟨by decide, by decide⟩)⟩
theorem c_X11_all (l : Launch) : Ctr l yX11_all cX11_all 3 (some .int) 10 200 0 (fun sx => (nf G_X11_all)) := ctr_of (by decide) gz gz ⟨rfl, rfl⟩ (fun p e s m args below meth c D ca ad sx sy A Q as M C0 hE hr hno hF => P_X11_all (L_X11_all C0 hE hr hno) hF)
theorem wg1224 : Cond.fieldLink "WeighedHallModel" 202 "WeighedHallModel" "votes" "I" ∈ GT := gt_mem 1344 (by decide +kernel) rfl
theorem wg1227 : Cond.fieldLink "WeighedHallModel" 58 "WeighedHallModel" "vote" "[[I" ∈ GT := gt_mem 1347 (by decide +kernel) rfl
theorem d_X11_areRight_0 : decode cX11_areRight 0 = .ok (.iconst 0, 1) := by decide +kernel
theorem d_X11_areRight_1 : decode cX11_areRight 1 = .ok (.istore_n 2, 1) := by decide +kernel
theorem d_X11_areRight_2 : decode cX11_areRight 2 = .ok (.iload_n 2, 1) := by decide +kernel
theorem d_X11_areRight_3 : decode cX11_areRight 3 = .ok (.aload_n 0, 1) := by decide +kernel
theorem d_X11_areRight_4 : decode cX11_areRight 4 = .ok (.getfield 202, 3) := by decide +kernel
theorem d_X11_areRight_7 : decode cX11_areRight 7 = .ok (.if_icmp .ge 143, 3) := by decide +kernel
theorem d_X11_areRight_10 : decode cX11_areRight 10 = .ok (.iconst 0, 1) := by decide +kernel
theorem d_X11_areRight_11 : decode cX11_areRight 11 = .ok (.istore_n 3, 1) := by decide +kernel
theorem d_X11_areRight_12 : decode cX11_areRight 12 = .ok (.iconst 0, 1) := by decide +kernel
theorem d_X11_areRight_13 : decode cX11_areRight 13 = .ok (.istore 4, 2) := by decide +kernel
theorem d_X11_areRight_15 : decode cX11_areRight 15 = .ok (.iload 4, 2) := by decide +kernel
theorem d_X11_areRight_17 : decode cX11_areRight 17 = .ok (.aload_n 0, 1) := by decide +kernel
theorem d_X11_areRight_18 : decode cX11_areRight 18 = .ok (.getfield 23, 3) := by decide +kernel
theorem d_X11_areRight_21 : decode cX11_areRight 21 = .ok (.iconst 1, 1) := by decide +kernel
theorem d_X11_areRight_22 : decode cX11_areRight 22 = .ok (.iaload, 1) := by decide +kernel
theorem d_X11_areRight_23 : decode cX11_areRight 23 = .ok (.if_icmp .ge 107, 3) := by decide +kernel
theorem d_X11_areRight_26 : decode cX11_areRight 26 = .ok (.iload_n 1, 1) := by decide +kernel
theorem d_X11_areRight_27 : decode cX11_areRight 27 = .ok (.iload 4, 2) := by decide +kernel
theorem d_X11_areRight_29 : decode cX11_areRight 29 = .ok (.ishr, 1) := by decide +kernel
theorem d_X11_areRight_30 : decode cX11_areRight 30 = .ok (.iconst 1, 1) := by decide +kernel
theorem d_X11_areRight_31 : decode cX11_areRight 31 = .ok (.iand, 1) := by decide +kernel
theorem d_X11_areRight_32 : decode cX11_areRight 32 = .ok (.iconst 1, 1) := by decide +kernel
theorem d_X11_areRight_33 : decode cX11_areRight 33 = .ok (.if_icmp .ne 17, 3) := by decide +kernel
theorem d_X11_areRight_36 : decode cX11_areRight 36 = .ok (.aload_n 0, 1) := by decide +kernel
theorem d_X11_areRight_37 : decode cX11_areRight 37 = .ok (.getfield 37, 3) := by decide +kernel
theorem d_X11_areRight_40 : decode cX11_areRight 40 = .ok (.iload 4, 2) := by decide +kernel
theorem d_X11_areRight_42 : decode cX11_areRight 42 = .ok (.aaload, 1) := by decide +kernel
theorem d_X11_areRight_43 : decode cX11_areRight 43 = .ok (.iconst 1, 1) := by decide +kernel
theorem d_X11_areRight_44 : decode cX11_areRight 44 = .ok (.iaload, 1) := by decide +kernel
theorem d_X11_areRight_45 : decode cX11_areRight 45 = .ok (.iconst 2, 1) := by decide +kernel
theorem d_X11_areRight_46 : decode cX11_areRight 46 = .ok (.idiv, 1) := by decide +kernel
theorem d_X11_areRight_47 : decode cX11_areRight 47 = .ok (.goto 12, 3) := by decide +kernel
theorem d_X11_areRight_50 : decode cX11_areRight 50 = .ok (.aload_n 0, 1) := by decide +kernel
theorem d_X11_areRight_51 : decode cX11_areRight 51 = .ok (.getfield 37, 3) := by decide +kernel
theorem d_X11_areRight_54 : decode cX11_areRight 54 = .ok (.iload 4, 2) := by decide +kernel
theorem d_X11_areRight_56 : decode cX11_areRight 56 = .ok (.aaload, 1) := by decide +kernel
theorem d_X11_areRight_57 : decode cX11_areRight 57 = .ok (.iconst 1, 1) := by decide +kernel
theorem d_X11_areRight_58 : decode cX11_areRight 58 = .ok (.iaload, 1) := by decide +kernel
theorem d_X11_areRight_59 : decode cX11_areRight 59 = .ok (.istore 5, 2) := by decide +kernel
theorem d_X11_areRight_61 : decode cX11_areRight 61 = .ok (.iload_n 3, 1) := by decide +kernel
theorem d_X11_areRight_62 : decode cX11_areRight 62 = .ok (.aload_n 0, 1) := by decide +kernel
theorem d_X11_areRight_63 : decode cX11_areRight 63 = .ok (.getfield 58, 3) := by decide +kernel
theorem d_X11_areRight_66 : decode cX11_areRight 66 = .ok (.iload_n 2, 1) := by decide +kernel
theorem d_X11_areRight_67 : decode cX11_areRight 67 = .ok (.aaload, 1) := by decide +kernel
theorem d_X11_areRight_68 : decode cX11_areRight 68 = .ok (.iconst 0, 1) := by decide +kernel
theorem d_X11_areRight_69 : decode cX11_areRight 69 = .ok (.iaload, 1) := by decide +kernel
theorem d_X11_areRight_70 : decode cX11_areRight 70 = .ok (.aload_n 0, 1) := by decide +kernel
theorem d_X11_areRight_71 : decode cX11_areRight 71 = .ok (.getfield 37, 3) := by decide +kernel
theorem d_X11_areRight_74 : decode cX11_areRight 74 = .ok (.iload 4, 2) := by decide +kernel
theorem d_X11_areRight_76 : decode cX11_areRight 76 = .ok (.aaload, 1) := by decide +kernel
theorem d_X11_areRight_77 : decode cX11_areRight 77 = .ok (.iconst 0, 1) := by decide +kernel
theorem d_X11_areRight_78 : decode cX11_areRight 78 = .ok (.iaload, 1) := by decide +kernel
theorem d_X11_areRight_79 : decode cX11_areRight 79 = .ok (.ishr, 1) := by decide +kernel
theorem d_X11_areRight_80 : decode cX11_areRight 80 = .ok (.iconst 1, 1) := by decide +kernel
theorem d_X11_areRight_81 : decode cX11_areRight 81 = .ok (.iand, 1) := by decide +kernel
theorem d_X11_areRight_82 : decode cX11_areRight 82 = .ok (.iconst 1, 1) := by decide +kernel
theorem d_X11_areRight_83 : decode cX11_areRight 83 = .ok (.if_icmp .ne 8, 3) := by decide +kernel
theorem d_X11_areRight_86 : decode cX11_areRight 86 = .ok (.iload 5, 2) := by decide +kernel
theorem d_X11_areRight_88 : decode cX11_areRight 88 = .ok (.goto 34, 3) := by decide +kernel
theorem d_X11_areRight_91 : decode cX11_areRight 91 = .ok (.aload_n 0, 1) := by decide +kernel
theorem d_X11_areRight_92 : decode cX11_areRight 92 = .ok (.getfield 58, 3) := by decide +kernel
theorem d_X11_areRight_95 : decode cX11_areRight 95 = .ok (.iload_n 2, 1) := by decide +kernel
theorem d_X11_areRight_96 : decode cX11_areRight 96 = .ok (.aaload, 1) := by decide +kernel
theorem d_X11_areRight_97 : decode cX11_areRight 97 = .ok (.iconst 1, 1) := by decide +kernel
theorem d_X11_areRight_98 : decode cX11_areRight 98 = .ok (.iaload, 1) := by decide +kernel
theorem d_X11_areRight_99 : decode cX11_areRight 99 = .ok (.aload_n 0, 1) := by decide +kernel
theorem d_X11_areRight_100 : decode cX11_areRight 100 = .ok (.getfield 37, 3) := by decide +kernel
theorem d_X11_areRight_103 : decode cX11_areRight 103 = .ok (.iload 4, 2) := by decide +kernel
theorem d_X11_areRight_105 : decode cX11_areRight 105 = .ok (.aaload, 1) := by decide +kernel
theorem d_X11_areRight_106 : decode cX11_areRight 106 = .ok (.iconst 0, 1) := by decide +kernel
theorem d_X11_areRight_107 : decode cX11_areRight 107 = .ok (.iaload, 1) := by decide +kernel
theorem d_X11_areRight_108 : decode cX11_areRight 108 = .ok (.ishr, 1) := by decide +kernel
theorem d_X11_areRight_109 : decode cX11_areRight 109 = .ok (.iconst 1, 1) := by decide +kernel
theorem d_X11_areRight_110 : decode cX11_areRight 110 = .ok (.iand, 1) := by decide +kernel
theorem d_X11_areRight_111 : decode cX11_areRight 111 = .ok (.iconst 1, 1) := by decide +kernel
theorem d_X11_areRight_112 : decode cX11_areRight 112 = .ok (.if_icmp .ne 9, 3) := by decide +kernel
theorem d_X11_areRight_115 : decode cX11_areRight 115 = .ok (.iload 5, 2) := by decide +kernel
theorem d_X11_areRight_117 : decode cX11_areRight 117 = .ok (.ineg, 1) := by decide +kernel
theorem d_X11_areRight_118 : decode cX11_areRight 118 = .ok (.goto 4, 3) := by decide +kernel
theorem d_X11_areRight_121 : decode cX11_areRight 121 = .ok (.iconst 0, 1) := by decide +kernel
theorem d_X11_areRight_122 : decode cX11_areRight 122 = .ok (.iadd, 1) := by decide +kernel
theorem d_X11_areRight_123 : decode cX11_areRight 123 = .ok (.istore_n 3, 1) := by decide +kernel
theorem d_X11_areRight_124 : decode cX11_areRight 124 = .ok (.iinc 4 1, 3) := by decide +kernel
theorem d_X11_areRight_127 : decode cX11_areRight 127 = .ok (.goto (-112), 3) := by decide +kernel
theorem d_X11_areRight_130 : decode cX11_areRight 130 = .ok (.iload_n 3, 1) := by decide +kernel
theorem d_X11_areRight_131 : decode cX11_areRight 131 = .ok (.aload_n 0, 1) := by decide +kernel
theorem d_X11_areRight_132 : decode cX11_areRight 132 = .ok (.getfield 58, 3) := by decide +kernel
theorem d_X11_areRight_135 : decode cX11_areRight 135 = .ok (.iload_n 2, 1) := by decide +kernel
theorem d_X11_areRight_136 : decode cX11_areRight 136 = .ok (.aaload, 1) := by decide +kernel
theorem d_X11_areRight_137 : decode cX11_areRight 137 = .ok (.iconst 2, 1) := by decide +kernel
theorem d_X11_areRight_138 : decode cX11_areRight 138 = .ok (.iaload, 1) := by decide +kernel
theorem d_X11_areRight_139 : decode cX11_areRight 139 = .ok (.if_icmp .eq 5, 3) := by decide +kernel
theorem d_X11_areRight_142 : decode cX11_areRight 142 = .ok (.iconst 0, 1) := by decide +kernel
theorem d_X11_areRight_143 : decode cX11_areRight 143 = .ok (.ireturn, 1) := by decide +kernel
theorem d_X11_areRight_144 : decode cX11_areRight 144 = .ok (.iinc 2 1, 3) := by decide +kernel
theorem d_X11_areRight_147 : decode cX11_areRight 147 = .ok (.goto (-145), 3) := by decide +kernel
theorem d_X11_areRight_150 : decode cX11_areRight 150 = .ok (.iconst 1, 1) := by decide +kernel
theorem d_X11_areRight_151 : decode cX11_areRight 151 = .ok (.ireturn, 1) := by decide +kernel
set_option maxRecDepth 100000 in
theorem L_X11_areRight {p : Program} {l : Launch} {e : Env} {s : State} {m : MethodId} {args : Array Value} {below : List Frame} {meth : Method} {c : Code} {D : va_G} {ca : Nat → ClassId} {ad sx sy : Nat → Nat} {A : Nat → Prop} {Q : QT} (C0 : CX p s m args meth c cX11_areRight 6 yX11_areRight.cls D ca ad A) (hE : EX sx sy A s s.heap) (hr : meth.sig.returnType = (some .boolean)) (hno : ∀ x ∈ c.exceptionTable.toList, False) : R_X11_areRight (JW p l e { frames := 10, cells := 0, slots := 6 * 0, locals := 200 } s m args below meth c 6 D ca ad A (vx_MQ below (Qn D ca ad A Q) (Qx D ca ad A Q) args s 0 (6 * 0) A) gz gz true) Q := ⟨s_ic C0 (d_X11_areRight_0) hgz (s_isn C0 (d_X11_areRight_1) hgz (fun _ _ _ h => h)) (okn rfl),
  s_iln C0 (d_X11_areRight_2) hgz (s_aln C0 (d_X11_areRight_3) hgz (s_gi C0 (j := 23) (c0 := 11) rfl gX11 (by decide) rfl (by decide) wg1224 (d_X11_areRight_4) hgz (s_cge C0 (d_X11_areRight_7) (by decide) hgz hgz (fun _ _ _ h => h) (s_ic C0 (d_X11_areRight_10) hgz (s_isn C0 (d_X11_areRight_11) hgz (s_ic C0 (d_X11_areRight_12) hgz (s_is C0 (d_X11_areRight_13) hgz (fun _ _ _ h => h)) (okn rfl))) (okn rfl))))),
  s_il C0 (d_X11_areRight_15) hgz (s_aln C0 (d_X11_areRight_17) hgz (s_gr C0 (j := 11) (c0 := 11) rfl gX11 (by decide) rfl rfl wg1212 (d_X11_areRight_18) hgz (s_ic C0 (d_X11_areRight_21) hgz (s_ia C0 (d_X11_areRight_22) hgz (s_cge C0 (d_X11_areRight_23) (by decide) hgz hgz (fun _ _ _ h => h) (s_iln C0 (d_X11_areRight_26) hgz (s_il C0 (d_X11_areRight_27) hgz (s_shr C0 (d_X11_areRight_29) hgz (s_ic C0 (d_X11_areRight_30) hgz (s_and C0 (d_X11_areRight_31) hgz (s_ic C0 (d_X11_areRight_32) hgz (s_cne C0 (d_X11_areRight_33) (by decide) hgz hgz (fun _ _ _ h => h) (s_aln C0 (d_X11_areRight_36) hgz (s_gr C0 (j := 15) (c0 := 11) rfl gX11 (by decide) rfl rfl wg1216 (d_X11_areRight_37) hgz (s_il C0 (d_X11_areRight_40) hgz (s_aa C0 (by decide) (by decide) rfl rfl (d_X11_areRight_42) hgz (s_ic C0 (d_X11_areRight_43) hgz (s_ia C0 (d_X11_areRight_44) hgz (s_ic C0 (d_X11_areRight_45) hgz (s_div C0 (d_X11_areRight_46) hgz (s_goto C0 (tgt := 59) (d_X11_areRight_47) (by decide) hgz (fun _ _ _ h => h))) (okn rfl))) (okn rfl))))))) (okn rfl))) (okn rfl))))))) (okn rfl)))),
  s_aln C0 (d_X11_areRight_50) hgz (s_gr C0 (j := 15) (c0 := 11) rfl gX11 (by decide) rfl rfl wg1216 (d_X11_areRight_51) hgz (s_il C0 (d_X11_areRight_54) hgz (s_aa C0 (by decide) (by decide) rfl rfl (d_X11_areRight_56) hgz (s_ic C0 (d_X11_areRight_57) hgz (s_ia C0 (d_X11_areRight_58) hgz (fun _ _ _ h => h)) (okn rfl))))),
  s_is C0 (d_X11_areRight_59) hgz (s_iln C0 (d_X11_areRight_61) hgz (s_aln C0 (d_X11_areRight_62) hgz (s_gr C0 (j := 26) (c0 := 11) rfl gX11 (by decide) rfl rfl wg1227 (d_X11_areRight_63) hgz (s_iln C0 (d_X11_areRight_66) hgz (s_aa C0 (by decide) (by decide) rfl rfl (d_X11_areRight_67) hgz (s_ic C0 (d_X11_areRight_68) hgz (s_ia C0 (d_X11_areRight_69) hgz (s_aln C0 (d_X11_areRight_70) hgz (s_gr C0 (j := 15) (c0 := 11) rfl gX11 (by decide) rfl rfl wg1216 (d_X11_areRight_71) hgz (s_il C0 (d_X11_areRight_74) hgz (s_aa C0 (by decide) (by decide) rfl rfl (d_X11_areRight_76) hgz (s_ic C0 (d_X11_areRight_77) hgz (s_ia C0 (d_X11_areRight_78) hgz (s_shr C0 (d_X11_areRight_79) hgz (s_ic C0 (d_X11_areRight_80) hgz (s_and C0 (d_X11_areRight_81) hgz (s_ic C0 (d_X11_areRight_82) hgz (s_cne C0 (d_X11_areRight_83) (by decide) hgz hgz (fun _ _ _ h => h) (s_il C0 (d_X11_areRight_86) hgz (s_goto C0 (tgt := 122) (d_X11_areRight_88) (by decide) hgz (fun _ _ _ h => h)))) (okn rfl))) (okn rfl)))) (okn rfl))))))) (okn rfl))))))),
  s_aln C0 (d_X11_areRight_91) hgz (s_gr C0 (j := 26) (c0 := 11) rfl gX11 (by decide) rfl rfl wg1227 (d_X11_areRight_92) hgz (s_iln C0 (d_X11_areRight_95) hgz (s_aa C0 (by decide) (by decide) rfl rfl (d_X11_areRight_96) hgz (s_ic C0 (d_X11_areRight_97) hgz (s_ia C0 (d_X11_areRight_98) hgz (s_aln C0 (d_X11_areRight_99) hgz (s_gr C0 (j := 15) (c0 := 11) rfl gX11 (by decide) rfl rfl wg1216 (d_X11_areRight_100) hgz (s_il C0 (d_X11_areRight_103) hgz (s_aa C0 (by decide) (by decide) rfl rfl (d_X11_areRight_105) hgz (s_ic C0 (d_X11_areRight_106) hgz (s_ia C0 (d_X11_areRight_107) hgz (s_shr C0 (d_X11_areRight_108) hgz (s_ic C0 (d_X11_areRight_109) hgz (s_and C0 (d_X11_areRight_110) hgz (s_ic C0 (d_X11_areRight_111) hgz (s_cne C0 (d_X11_areRight_112) (by decide) hgz hgz (fun _ _ _ h => h) (s_il C0 (d_X11_areRight_115) hgz (s_neg C0 (d_X11_areRight_117) hgz (s_goto C0 (tgt := 122) (d_X11_areRight_118) (by decide) hgz (fun _ _ _ h => h))))) (okn rfl))) (okn rfl)))) (okn rfl))))))) (okn rfl))))),
  s_ic C0 (d_X11_areRight_121) hgz (fun _ _ _ h => h) (okn rfl),
  s_add C0 (d_X11_areRight_122) hgz (s_isn C0 (d_X11_areRight_123) hgz (s_inc C0 (d_X11_areRight_124) hgz (s_goto C0 (tgt := 15) (d_X11_areRight_127) (by decide) hgz (fun _ _ _ h => h)))),
  s_iln C0 (d_X11_areRight_130) hgz (s_aln C0 (d_X11_areRight_131) hgz (s_gr C0 (j := 26) (c0 := 11) rfl gX11 (by decide) rfl rfl wg1227 (d_X11_areRight_132) hgz (s_iln C0 (d_X11_areRight_135) hgz (s_aa C0 (by decide) (by decide) rfl rfl (d_X11_areRight_136) hgz (s_ic C0 (d_X11_areRight_137) hgz (s_ia C0 (d_X11_areRight_138) hgz (s_ceq C0 (d_X11_areRight_139) (by decide) hgz hgz (fun _ _ _ h => h) (s_ic C0 (d_X11_areRight_142) hgz (s_rz C0 hr (d_X11_areRight_143) ⟨by decide, by decide⟩) (okn rfl)))) (okn rfl)))))),
  s_inc C0 (d_X11_areRight_144) hgz (s_goto C0 (tgt := 2) (d_X11_areRight_147) (by decide) hgz (fun _ _ _ h => h)),
  s_ic C0 (d_X11_areRight_150) hgz (s_rz C0 hr (d_X11_areRight_151) ⟨by decide, by decide⟩) (okn rfl)⟩
theorem c_X11_areRight (l : Launch) : Ctr l yX11_areRight cX11_areRight 6 (some .boolean) 10 200 0 (fun sx => (nf G_X11_areRight)) := ctr_of (by decide) gz gz ⟨rfl, rfl⟩ (fun p e s m args below meth c D ca ad sx sy A Q as M C0 hE hr hno hF => P_X11_areRight (L_X11_areRight C0 hE hr hno) hF)
theorem wg1210 : Cond.fieldLink "WeighedHallModel" 17 "WeighedHallModel" "refused" "[I" ∈ GT := gt_mem 1330 (by decide +kernel) rfl
theorem wg1201 : Cond.fieldLink "WeighedHallModel" 106 "WeighedHallModel" "thrown" "I" ∈ GT := gt_mem 1321 (by decide +kernel) rfl
theorem d_X11_bad_0 : decode cX11_bad 0 = .ok (.iload_n 1, 1) := by decide +kernel
theorem d_X11_bad_1 : decode cX11_bad 1 = .ok (.ifCond .eq 25, 3) := by decide +kernel
theorem d_X11_bad_4 : decode cX11_bad 4 = .ok (.aload_n 0, 1) := by decide +kernel
theorem d_X11_bad_5 : decode cX11_bad 5 = .ok (.getfield 106, 3) := by decide +kernel
theorem d_X11_bad_8 : decode cX11_bad 8 = .ok (.ifCond .ne 18, 3) := by decide +kernel
theorem d_X11_bad_11 : decode cX11_bad 11 = .ok (.aload_n 0, 1) := by decide +kernel
theorem d_X11_bad_12 : decode cX11_bad 12 = .ok (.iload_n 2, 1) := by decide +kernel
theorem d_X11_bad_13 : decode cX11_bad 13 = .ok (.putfield 106, 3) := by decide +kernel
theorem d_X11_bad_16 : decode cX11_bad 16 = .ok (.aload_n 0, 1) := by decide +kernel
theorem d_X11_bad_17 : decode cX11_bad 17 = .ok (.getfield 17, 3) := by decide +kernel
theorem d_X11_bad_20 : decode cX11_bad 20 = .ok (.iload_n 3, 1) := by decide +kernel
theorem d_X11_bad_21 : decode cX11_bad 21 = .ok (.dup2, 1) := by decide +kernel
theorem d_X11_bad_22 : decode cX11_bad 22 = .ok (.iaload, 1) := by decide +kernel
theorem d_X11_bad_23 : decode cX11_bad 23 = .ok (.iconst 1, 1) := by decide +kernel
theorem d_X11_bad_24 : decode cX11_bad 24 = .ok (.iadd, 1) := by decide +kernel
theorem d_X11_bad_25 : decode cX11_bad 25 = .ok (.iastore, 1) := by decide +kernel
theorem d_X11_bad_26 : decode cX11_bad 26 = .ok (.aload_n 0, 1) := by decide +kernel
theorem d_X11_bad_27 : decode cX11_bad 27 = .ok (.getfield 106, 3) := by decide +kernel
theorem d_X11_bad_30 : decode cX11_bad 30 = .ok (.ifCond .eq 7, 3) := by decide +kernel
theorem d_X11_bad_33 : decode cX11_bad 33 = .ok (.iconst 1, 1) := by decide +kernel
theorem d_X11_bad_34 : decode cX11_bad 34 = .ok (.goto 4, 3) := by decide +kernel
theorem d_X11_bad_37 : decode cX11_bad 37 = .ok (.iconst 0, 1) := by decide +kernel
theorem d_X11_bad_38 : decode cX11_bad 38 = .ok (.ireturn, 1) := by decide +kernel
set_option maxRecDepth 100000 in
theorem L_X11_bad {p : Program} {l : Launch} {e : Env} {s : State} {m : MethodId} {args : Array Value} {below : List Frame} {meth : Method} {c : Code} {D : va_G} {ca : Nat → ClassId} {ad sx sy : Nat → Nat} {A : Nat → Prop} {Q : QT} (C0 : CX p s m args meth c cX11_bad 4 yX11_bad.cls D ca ad A) (hE : EX sx sy A s s.heap) (hr : meth.sig.returnType = (some .boolean)) (hno : ∀ x ∈ c.exceptionTable.toList, False) : R_X11_bad (JW p l e { frames := 10, cells := 0, slots := 6 * 0, locals := 200 } s m args below meth c 4 D ca ad A (vx_MQ below (Qn D ca ad A Q) (Qx D ca ad A Q) args s 0 (6 * 0) A) gz gz true) Q := ⟨s_iln C0 (d_X11_bad_0) hgz (s_zeq C0 (d_X11_bad_1) (by decide) hgz hgz (fun _ _ _ h => h) (s_aln C0 (d_X11_bad_4) hgz (s_gi C0 (j := 0) (c0 := 11) rfl gX11 (by decide) rfl (by decide) wg1201 (d_X11_bad_5) hgz (s_zne C0 (d_X11_bad_8) (by decide) hgz hgz (fun _ _ _ h => h) (s_aln C0 (d_X11_bad_11) hgz (s_iln C0 (d_X11_bad_12) hgz (s_pi C0 (j := 0) (c0 := 11) rfl gX11 tyX11_ok nmX11 (by decide) rfl (by decide) rfl rfl wg1201 (d_X11_bad_13) hgz (s_aln C0 (d_X11_bad_16) hgz (s_gr C0 (j := 9) (c0 := 11) rfl gX11 (by decide) rfl rfl wg1210 (d_X11_bad_17) hgz (s_iln C0 (d_X11_bad_20) hgz (s_dup2 C0 (d_X11_bad_21) hgz (s_ia C0 (d_X11_bad_22) hgz (s_ic C0 (d_X11_bad_23) hgz (s_add C0 (d_X11_bad_24) hgz (s_iax C0 (d_X11_bad_25) hgz (fun _ _ _ h => h))) (okn rfl)))))))))))))),
  s_aln C0 (d_X11_bad_26) hgz (s_gi C0 (j := 0) (c0 := 11) rfl gX11 (by decide) rfl (by decide) wg1201 (d_X11_bad_27) hgz (s_zeq C0 (d_X11_bad_30) (by decide) hgz hgz (fun _ _ _ h => h) (s_ic C0 (d_X11_bad_33) hgz (s_goto C0 (tgt := 38) (d_X11_bad_34) (by decide) hgz (fun _ _ _ h => h)) (okn rfl)))),
  s_ic C0 (d_X11_bad_37) hgz (fun _ _ _ h => h) (okn rfl),
  s_rz C0 hr (d_X11_bad_38) ⟨by decide, by decide⟩⟩
theorem c_X11_bad (l : Launch) : Ctr l yX11_bad cX11_bad 4 (some .boolean) 10 200 0 (fun sx => (nf G_X11_bad)) := ctr_of (by decide) gz gz ⟨rfl, rfl⟩ (fun p e s m args below meth c D ca ad sx sy A Q as M C0 hE hr hno hF => P_X11_bad (L_X11_bad C0 hE hr hno) hF)
theorem d_X11_rounded_0 : decode cX11_rounded 0 = .ok (.iload_n 0, 1) := by decide +kernel
theorem d_X11_rounded_1 : decode cX11_rounded 1 = .ok (.iload_n 1, 1) := by decide +kernel
theorem d_X11_rounded_2 : decode cX11_rounded 2 = .ok (.iadd, 1) := by decide +kernel
theorem d_X11_rounded_3 : decode cX11_rounded 3 = .ok (.iconst 1, 1) := by decide +kernel
theorem d_X11_rounded_4 : decode cX11_rounded 4 = .ok (.isub, 1) := by decide +kernel
theorem d_X11_rounded_5 : decode cX11_rounded 5 = .ok (.iload_n 1, 1) := by decide +kernel
theorem d_X11_rounded_6 : decode cX11_rounded 6 = .ok (.idiv, 1) := by decide +kernel
theorem d_X11_rounded_7 : decode cX11_rounded 7 = .ok (.ireturn, 1) := by decide +kernel
set_option maxRecDepth 100000 in
theorem L_X11_rounded {p : Program} {l : Launch} {e : Env} {s : State} {m : MethodId} {args : Array Value} {below : List Frame} {meth : Method} {c : Code} {D : va_G} {ca : Nat → ClassId} {ad sx sy : Nat → Nat} {A : Nat → Prop} {Q : QT} (C0 : CX p s m args meth c cX11_rounded 2 yX11_rounded.cls D ca ad A) (hE : EX sx sy A s s.heap) (hr : meth.sig.returnType = (some .int)) (hno : ∀ x ∈ c.exceptionTable.toList, False) : R_X11_rounded (JW p l e { frames := 10, cells := 0, slots := 6 * 0, locals := 200 } s m args below meth c 2 D ca ad A (vx_MQ below (Qn D ca ad A Q) (Qx D ca ad A Q) args s 0 (6 * 0) A) gz gz true) Q := s_iln C0 (d_X11_rounded_0) hgz (s_iln C0 (d_X11_rounded_1) hgz (s_add C0 (d_X11_rounded_2) hgz (s_ic C0 (d_X11_rounded_3) hgz (s_sub C0 (d_X11_rounded_4) hgz (s_iln C0 (d_X11_rounded_5) hgz (s_div C0 (d_X11_rounded_6) hgz (s_ri C0 hr (d_X11_rounded_7) ⟨by decide, by decide⟩)))) (okn rfl))))
theorem c_X11_rounded (l : Launch) : Ctr l yX11_rounded cX11_rounded 2 (some .int) 10 200 0 (fun sx => (nf G_X11_rounded)) := ctr_of (by decide) gz gz ⟨rfl, rfl⟩ (fun p e s m args below meth c D ca ad sx sy A Q as M C0 hE hr hno hF => P_X11_rounded (L_X11_rounded C0 hE hr hno) hF)
theorem wg1236 : Cond.fieldLink "WeighedHallModel" 87 "WeighedHallModel" "without" "I" ∈ GT := gt_mem 1356 (by decide +kernel) rfl
theorem wg1231 : Cond.fieldLink "WeighedHallModel" 70 "WeighedHallModel" "through" "[I" ∈ GT := gt_mem 1351 (by decide +kernel) rfl
theorem wg1465 : Cond.code ⟨"WeighedHallModel", "rounded", "(II)I"⟩ prog_13_method_32_code 2 (Option.some .int) ∈ GT := gt_mem 1585 (by decide +kernel) rfl
theorem wg1463 : Cond.methodLink "WeighedHallModel" 226 ⟨"WeighedHallModel", "rounded", "(II)I"⟩ ∈ GT := gt_mem 1583 (by decide +kernel) rfl
theorem wg1464 : Cond.static ⟨"WeighedHallModel", "rounded", "(II)I"⟩ ∈ GT := gt_mem 1584 (by decide +kernel) rfl
theorem wg1222 : Cond.fieldLink "WeighedHallModel" 55 "WeighedHallModel" "door" "[I" ∈ GT := gt_mem 1342 (by decide +kernel) rfl
theorem d_X11_laysDoors_0 : decode cX11_laysDoors 0 = .ok (.iconst 0, 1) := by decide +kernel
theorem d_X11_laysDoors_1 : decode cX11_laysDoors 1 = .ok (.istore_n 1, 1) := by decide +kernel
theorem d_X11_laysDoors_2 : decode cX11_laysDoors 2 = .ok (.iload_n 1, 1) := by decide +kernel
theorem d_X11_laysDoors_3 : decode cX11_laysDoors 3 = .ok (.aload_n 0, 1) := by decide +kernel
theorem d_X11_laysDoors_4 : decode cX11_laysDoors 4 = .ok (.getfield 23, 3) := by decide +kernel
theorem d_X11_laysDoors_7 : decode cX11_laysDoors 7 = .ok (.iconst 1, 1) := by decide +kernel
theorem d_X11_laysDoors_8 : decode cX11_laysDoors 8 = .ok (.iaload, 1) := by decide +kernel
theorem d_X11_laysDoors_9 : decode cX11_laysDoors 9 = .ok (.if_icmp .ge 143, 3) := by decide +kernel
theorem d_X11_laysDoors_12 : decode cX11_laysDoors 12 = .ok (.iconst 0, 1) := by decide +kernel
theorem d_X11_laysDoors_13 : decode cX11_laysDoors 13 = .ok (.istore_n 2, 1) := by decide +kernel
theorem d_X11_laysDoors_14 : decode cX11_laysDoors 14 = .ok (.aload_n 0, 1) := by decide +kernel
theorem d_X11_laysDoors_15 : decode cX11_laysDoors 15 = .ok (.getfield 70, 3) := by decide +kernel
theorem d_X11_laysDoors_18 : decode cX11_laysDoors 18 = .ok (.iload_n 1, 1) := by decide +kernel
theorem d_X11_laysDoors_19 : decode cX11_laysDoors 19 = .ok (.iconst 0, 1) := by decide +kernel
theorem d_X11_laysDoors_20 : decode cX11_laysDoors 20 = .ok (.iastore, 1) := by decide +kernel
theorem d_X11_laysDoors_21 : decode cX11_laysDoors 21 = .ok (.aload_n 0, 1) := by decide +kernel
theorem d_X11_laysDoors_22 : decode cX11_laysDoors 22 = .ok (.getfield 37, 3) := by decide +kernel
theorem d_X11_laysDoors_25 : decode cX11_laysDoors 25 = .ok (.iload_n 1, 1) := by decide +kernel
theorem d_X11_laysDoors_26 : decode cX11_laysDoors 26 = .ok (.aaload, 1) := by decide +kernel
theorem d_X11_laysDoors_27 : decode cX11_laysDoors 27 = .ok (.iconst 2, 1) := by decide +kernel
theorem d_X11_laysDoors_28 : decode cX11_laysDoors 28 = .ok (.iaload, 1) := by decide +kernel
theorem d_X11_laysDoors_29 : decode cX11_laysDoors 29 = .ok (.iconst (-1), 1) := by decide +kernel
theorem d_X11_laysDoors_30 : decode cX11_laysDoors 30 = .ok (.if_icmp .eq 116, 3) := by decide +kernel
theorem d_X11_laysDoors_33 : decode cX11_laysDoors 33 = .ok (.iload_n 1, 1) := by decide +kernel
theorem d_X11_laysDoors_34 : decode cX11_laysDoors 34 = .ok (.aload_n 0, 1) := by decide +kernel
theorem d_X11_laysDoors_35 : decode cX11_laysDoors 35 = .ok (.getfield 87, 3) := by decide +kernel
theorem d_X11_laysDoors_38 : decode cX11_laysDoors 38 = .ok (.if_icmp .ne 6, 3) := by decide +kernel
theorem d_X11_laysDoors_41 : decode cX11_laysDoors 41 = .ok (.goto 105, 3) := by decide +kernel
theorem d_X11_laysDoors_44 : decode cX11_laysDoors 44 = .ok (.iconst 0, 1) := by decide +kernel
theorem d_X11_laysDoors_45 : decode cX11_laysDoors 45 = .ok (.istore_n 3, 1) := by decide +kernel
theorem d_X11_laysDoors_46 : decode cX11_laysDoors 46 = .ok (.iload_n 3, 1) := by decide +kernel
theorem d_X11_laysDoors_47 : decode cX11_laysDoors 47 = .ok (.iload_n 1, 1) := by decide +kernel
theorem d_X11_laysDoors_48 : decode cX11_laysDoors 48 = .ok (.if_icmp .ge 43, 3) := by decide +kernel
theorem d_X11_laysDoors_51 : decode cX11_laysDoors 51 = .ok (.aload_n 0, 1) := by decide +kernel
theorem d_X11_laysDoors_52 : decode cX11_laysDoors 52 = .ok (.getfield 37, 3) := by decide +kernel
theorem d_X11_laysDoors_55 : decode cX11_laysDoors 55 = .ok (.iload_n 3, 1) := by decide +kernel
theorem d_X11_laysDoors_56 : decode cX11_laysDoors 56 = .ok (.aaload, 1) := by decide +kernel
theorem d_X11_laysDoors_57 : decode cX11_laysDoors 57 = .ok (.iconst 2, 1) := by decide +kernel
theorem d_X11_laysDoors_58 : decode cX11_laysDoors 58 = .ok (.iaload, 1) := by decide +kernel
theorem d_X11_laysDoors_59 : decode cX11_laysDoors 59 = .ok (.aload_n 0, 1) := by decide +kernel
theorem d_X11_laysDoors_60 : decode cX11_laysDoors 60 = .ok (.getfield 37, 3) := by decide +kernel
theorem d_X11_laysDoors_63 : decode cX11_laysDoors 63 = .ok (.iload_n 1, 1) := by decide +kernel
theorem d_X11_laysDoors_64 : decode cX11_laysDoors 64 = .ok (.aaload, 1) := by decide +kernel
theorem d_X11_laysDoors_65 : decode cX11_laysDoors 65 = .ok (.iconst 2, 1) := by decide +kernel
theorem d_X11_laysDoors_66 : decode cX11_laysDoors 66 = .ok (.iaload, 1) := by decide +kernel
theorem d_X11_laysDoors_67 : decode cX11_laysDoors 67 = .ok (.if_icmp .ne 18, 3) := by decide +kernel
theorem d_X11_laysDoors_70 : decode cX11_laysDoors 70 = .ok (.iload_n 3, 1) := by decide +kernel
theorem d_X11_laysDoors_71 : decode cX11_laysDoors 71 = .ok (.aload_n 0, 1) := by decide +kernel
theorem d_X11_laysDoors_72 : decode cX11_laysDoors 72 = .ok (.getfield 87, 3) := by decide +kernel
theorem d_X11_laysDoors_75 : decode cX11_laysDoors 75 = .ok (.if_icmp .eq 10, 3) := by decide +kernel
theorem d_X11_laysDoors_78 : decode cX11_laysDoors 78 = .ok (.aload_n 0, 1) := by decide +kernel
theorem d_X11_laysDoors_79 : decode cX11_laysDoors 79 = .ok (.getfield 70, 3) := by decide +kernel
theorem d_X11_laysDoors_82 : decode cX11_laysDoors 82 = .ok (.iload_n 3, 1) := by decide +kernel
theorem d_X11_laysDoors_83 : decode cX11_laysDoors 83 = .ok (.iaload, 1) := by decide +kernel
theorem d_X11_laysDoors_84 : decode cX11_laysDoors 84 = .ok (.istore_n 2, 1) := by decide +kernel
theorem d_X11_laysDoors_85 : decode cX11_laysDoors 85 = .ok (.iinc 3 1, 3) := by decide +kernel
theorem d_X11_laysDoors_88 : decode cX11_laysDoors 88 = .ok (.goto (-42), 3) := by decide +kernel
theorem d_X11_laysDoors_91 : decode cX11_laysDoors 91 = .ok (.aload_n 0, 1) := by decide +kernel
theorem d_X11_laysDoors_92 : decode cX11_laysDoors 92 = .ok (.getfield 70, 3) := by decide +kernel
theorem d_X11_laysDoors_95 : decode cX11_laysDoors 95 = .ok (.iload_n 1, 1) := by decide +kernel
theorem d_X11_laysDoors_96 : decode cX11_laysDoors 96 = .ok (.iload_n 2, 1) := by decide +kernel
theorem d_X11_laysDoors_97 : decode cX11_laysDoors 97 = .ok (.aload_n 0, 1) := by decide +kernel
theorem d_X11_laysDoors_98 : decode cX11_laysDoors 98 = .ok (.getfield 37, 3) := by decide +kernel
theorem d_X11_laysDoors_101 : decode cX11_laysDoors 101 = .ok (.iload_n 1, 1) := by decide +kernel
theorem d_X11_laysDoors_102 : decode cX11_laysDoors 102 = .ok (.aaload, 1) := by decide +kernel
theorem d_X11_laysDoors_103 : decode cX11_laysDoors 103 = .ok (.iconst 3, 1) := by decide +kernel
theorem d_X11_laysDoors_104 : decode cX11_laysDoors 104 = .ok (.iaload, 1) := by decide +kernel
theorem d_X11_laysDoors_105 : decode cX11_laysDoors 105 = .ok (.if_icmp .le 7, 3) := by decide +kernel
theorem d_X11_laysDoors_108 : decode cX11_laysDoors 108 = .ok (.iload_n 2, 1) := by decide +kernel
theorem d_X11_laysDoors_109 : decode cX11_laysDoors 109 = .ok (.goto 11, 3) := by decide +kernel
theorem d_X11_laysDoors_112 : decode cX11_laysDoors 112 = .ok (.aload_n 0, 1) := by decide +kernel
theorem d_X11_laysDoors_113 : decode cX11_laysDoors 113 = .ok (.getfield 37, 3) := by decide +kernel
theorem d_X11_laysDoors_116 : decode cX11_laysDoors 116 = .ok (.iload_n 1, 1) := by decide +kernel
theorem d_X11_laysDoors_117 : decode cX11_laysDoors 117 = .ok (.aaload, 1) := by decide +kernel
theorem d_X11_laysDoors_118 : decode cX11_laysDoors 118 = .ok (.iconst 3, 1) := by decide +kernel
theorem d_X11_laysDoors_119 : decode cX11_laysDoors 119 = .ok (.iaload, 1) := by decide +kernel
theorem d_X11_laysDoors_120 : decode cX11_laysDoors 120 = .ok (.aload_n 0, 1) := by decide +kernel
theorem d_X11_laysDoors_121 : decode cX11_laysDoors 121 = .ok (.getfield 37, 3) := by decide +kernel
theorem d_X11_laysDoors_124 : decode cX11_laysDoors 124 = .ok (.iload_n 1, 1) := by decide +kernel
theorem d_X11_laysDoors_125 : decode cX11_laysDoors 125 = .ok (.aaload, 1) := by decide +kernel
theorem d_X11_laysDoors_126 : decode cX11_laysDoors 126 = .ok (.iconst 1, 1) := by decide +kernel
theorem d_X11_laysDoors_127 : decode cX11_laysDoors 127 = .ok (.iaload, 1) := by decide +kernel
theorem d_X11_laysDoors_128 : decode cX11_laysDoors 128 = .ok (.aload_n 0, 1) := by decide +kernel
theorem d_X11_laysDoors_129 : decode cX11_laysDoors 129 = .ok (.getfield 55, 3) := by decide +kernel
theorem d_X11_laysDoors_132 : decode cX11_laysDoors 132 = .ok (.aload_n 0, 1) := by decide +kernel
theorem d_X11_laysDoors_133 : decode cX11_laysDoors 133 = .ok (.getfield 37, 3) := by decide +kernel
theorem d_X11_laysDoors_136 : decode cX11_laysDoors 136 = .ok (.iload_n 1, 1) := by decide +kernel
theorem d_X11_laysDoors_137 : decode cX11_laysDoors 137 = .ok (.aaload, 1) := by decide +kernel
theorem d_X11_laysDoors_138 : decode cX11_laysDoors 138 = .ok (.iconst 2, 1) := by decide +kernel
theorem d_X11_laysDoors_139 : decode cX11_laysDoors 139 = .ok (.iaload, 1) := by decide +kernel
theorem d_X11_laysDoors_140 : decode cX11_laysDoors 140 = .ok (.iaload, 1) := by decide +kernel
theorem d_X11_laysDoors_141 : decode cX11_laysDoors 141 = .ok (.invokestatic 226, 3) := by decide +kernel
theorem d_X11_laysDoors_144 : decode cX11_laysDoors 144 = .ok (.iadd, 1) := by decide +kernel
theorem d_X11_laysDoors_145 : decode cX11_laysDoors 145 = .ok (.iastore, 1) := by decide +kernel
theorem d_X11_laysDoors_146 : decode cX11_laysDoors 146 = .ok (.iinc 1 1, 3) := by decide +kernel
theorem d_X11_laysDoors_149 : decode cX11_laysDoors 149 = .ok (.goto (-147), 3) := by decide +kernel
theorem d_X11_laysDoors_152 : decode cX11_laysDoors 152 = .ok (.return_, 1) := by decide +kernel
set_option maxRecDepth 100000 in
theorem L_X11_laysDoors {p : Program} {l : Launch} {e : Env} {s : State} {m : MethodId} {args : Array Value} {below : List Frame} {meth : Method} {c : Code} {D : va_G} {ca : Nat → ClassId} {ad sx sy : Nat → Nat} {A : Nat → Prop} {Q : QT} (C0 : CX p s m args meth c cX11_laysDoors 4 yX11_laysDoors.cls D ca ad A) (hE : EX sx sy A s s.heap) (hr : meth.sig.returnType = none) (hno : ∀ x ∈ c.exceptionTable.toList, False) : R_X11_laysDoors (JW p l e { frames := 11, cells := 0, slots := 6 * 0, locals := 221 } s m args below meth c 4 D ca ad A (vx_MQ below (Qn D ca ad A Q) (Qx D ca ad A Q) args s 0 (6 * 0) A) gz gz true) Q := ⟨s_ic C0 (d_X11_laysDoors_0) hgz (s_isn C0 (d_X11_laysDoors_1) hgz (fun _ _ _ h => h)) (okn rfl),
  s_iln C0 (d_X11_laysDoors_2) hgz (s_aln C0 (d_X11_laysDoors_3) hgz (s_gr C0 (j := 11) (c0 := 11) rfl gX11 (by decide) rfl rfl wg1212 (d_X11_laysDoors_4) hgz (s_ic C0 (d_X11_laysDoors_7) hgz (s_ia C0 (d_X11_laysDoors_8) hgz (s_cge C0 (d_X11_laysDoors_9) (by decide) hgz hgz (fun _ _ _ h => h) (s_ic C0 (d_X11_laysDoors_12) hgz (s_isn C0 (d_X11_laysDoors_13) hgz (s_aln C0 (d_X11_laysDoors_14) hgz (s_gr C0 (j := 30) (c0 := 11) rfl gX11 (by decide) rfl rfl wg1231 (d_X11_laysDoors_15) hgz (s_iln C0 (d_X11_laysDoors_18) hgz (s_ic C0 (d_X11_laysDoors_19) hgz (s_iax C0 (d_X11_laysDoors_20) hgz (s_aln C0 (d_X11_laysDoors_21) hgz (s_gr C0 (j := 15) (c0 := 11) rfl gX11 (by decide) rfl rfl wg1216 (d_X11_laysDoors_22) hgz (s_iln C0 (d_X11_laysDoors_25) hgz (s_aa C0 (by decide) (by decide) rfl rfl (d_X11_laysDoors_26) hgz (s_ic C0 (d_X11_laysDoors_27) hgz (s_ia C0 (d_X11_laysDoors_28) hgz (s_ic C0 (d_X11_laysDoors_29) hgz (s_ceq C0 (d_X11_laysDoors_30) (by decide) hgz hgz (fun _ _ _ h => h) (s_iln C0 (d_X11_laysDoors_33) hgz (s_aln C0 (d_X11_laysDoors_34) hgz (s_gi C0 (j := 35) (c0 := 11) rfl gX11 (by decide) rfl (by decide) wg1236 (d_X11_laysDoors_35) hgz (s_cne C0 (d_X11_laysDoors_38) (by decide) hgz hgz (fun _ _ _ h => h) (s_goto C0 (tgt := 146) (d_X11_laysDoors_41) (by decide) hgz (fun _ _ _ h => h))))))) (okn rfl))) (okn rfl))))))) (okn rfl)))))) (okn rfl)))) (okn rfl)))),
  s_ic C0 (d_X11_laysDoors_44) hgz (s_isn C0 (d_X11_laysDoors_45) hgz (fun _ _ _ h => h)) (okn rfl),
  s_iln C0 (d_X11_laysDoors_46) hgz (s_iln C0 (d_X11_laysDoors_47) hgz (s_cge C0 (d_X11_laysDoors_48) (by decide) hgz hgz (fun _ _ _ h => h) (s_aln C0 (d_X11_laysDoors_51) hgz (s_gr C0 (j := 15) (c0 := 11) rfl gX11 (by decide) rfl rfl wg1216 (d_X11_laysDoors_52) hgz (s_iln C0 (d_X11_laysDoors_55) hgz (s_aa C0 (by decide) (by decide) rfl rfl (d_X11_laysDoors_56) hgz (s_ic C0 (d_X11_laysDoors_57) hgz (s_ia C0 (d_X11_laysDoors_58) hgz (s_aln C0 (d_X11_laysDoors_59) hgz (s_gr C0 (j := 15) (c0 := 11) rfl gX11 (by decide) rfl rfl wg1216 (d_X11_laysDoors_60) hgz (s_iln C0 (d_X11_laysDoors_63) hgz (s_aa C0 (by decide) (by decide) rfl rfl (d_X11_laysDoors_64) hgz (s_ic C0 (d_X11_laysDoors_65) hgz (s_ia C0 (d_X11_laysDoors_66) hgz (s_cne C0 (d_X11_laysDoors_67) (by decide) hgz hgz (fun _ _ _ h => h) (s_iln C0 (d_X11_laysDoors_70) hgz (s_aln C0 (d_X11_laysDoors_71) hgz (s_gi C0 (j := 35) (c0 := 11) rfl gX11 (by decide) rfl (by decide) wg1236 (d_X11_laysDoors_72) hgz (s_ceq C0 (d_X11_laysDoors_75) (by decide) hgz hgz (fun _ _ _ h => h) (s_aln C0 (d_X11_laysDoors_78) hgz (s_gr C0 (j := 30) (c0 := 11) rfl gX11 (by decide) rfl rfl wg1231 (d_X11_laysDoors_79) hgz (s_iln C0 (d_X11_laysDoors_82) hgz (s_ia C0 (d_X11_laysDoors_83) hgz (s_isn C0 (d_X11_laysDoors_84) hgz (fun _ _ _ h => h)))))))))))) (okn rfl))))))) (okn rfl)))))))),
  s_inc C0 (d_X11_laysDoors_85) hgz (s_goto C0 (tgt := 46) (d_X11_laysDoors_88) (by decide) hgz (fun _ _ _ h => h)),
  s_aln C0 (d_X11_laysDoors_91) hgz (s_gr C0 (j := 30) (c0 := 11) rfl gX11 (by decide) rfl rfl wg1231 (d_X11_laysDoors_92) hgz (s_iln C0 (d_X11_laysDoors_95) hgz (s_iln C0 (d_X11_laysDoors_96) hgz (s_aln C0 (d_X11_laysDoors_97) hgz (s_gr C0 (j := 15) (c0 := 11) rfl gX11 (by decide) rfl rfl wg1216 (d_X11_laysDoors_98) hgz (s_iln C0 (d_X11_laysDoors_101) hgz (s_aa C0 (by decide) (by decide) rfl rfl (d_X11_laysDoors_102) hgz (s_ic C0 (d_X11_laysDoors_103) hgz (s_ia C0 (d_X11_laysDoors_104) hgz (s_cle C0 (d_X11_laysDoors_105) (by decide) hgz hgz (fun _ _ _ h => h) (s_iln C0 (d_X11_laysDoors_108) hgz (s_goto C0 (tgt := 120) (d_X11_laysDoors_109) (by decide) hgz (fun _ _ _ h => h))))) (okn rfl))))))))),
  s_aln C0 (d_X11_laysDoors_112) hgz (s_gr C0 (j := 15) (c0 := 11) rfl gX11 (by decide) rfl rfl wg1216 (d_X11_laysDoors_113) hgz (s_iln C0 (d_X11_laysDoors_116) hgz (s_aa C0 (by decide) (by decide) rfl rfl (d_X11_laysDoors_117) hgz (s_ic C0 (d_X11_laysDoors_118) hgz (s_ia C0 (d_X11_laysDoors_119) hgz (fun _ _ _ h => h)) (okn rfl))))),
  s_aln C0 (d_X11_laysDoors_120) hgz (s_gr C0 (j := 15) (c0 := 11) rfl gX11 (by decide) rfl rfl wg1216 (d_X11_laysDoors_121) hgz (s_iln C0 (d_X11_laysDoors_124) hgz (s_aa C0 (by decide) (by decide) rfl rfl (d_X11_laysDoors_125) hgz (s_ic C0 (d_X11_laysDoors_126) hgz (s_ia C0 (d_X11_laysDoors_127) hgz (s_aln C0 (d_X11_laysDoors_128) hgz (s_gr C0 (j := 21) (c0 := 11) rfl gX11 (by decide) rfl rfl wg1222 (d_X11_laysDoors_129) hgz (s_aln C0 (d_X11_laysDoors_132) hgz (s_gr C0 (j := 15) (c0 := 11) rfl gX11 (by decide) rfl rfl wg1216 (d_X11_laysDoors_133) hgz (s_iln C0 (d_X11_laysDoors_136) hgz (s_aa C0 (by decide) (by decide) rfl rfl (d_X11_laysDoors_137) hgz (s_ic C0 (d_X11_laysDoors_138) hgz (s_ia C0 (d_X11_laysDoors_139) hgz (s_ia C0 (d_X11_laysDoors_140) hgz (s_callS C0 hE (c_X11_rounded l) wg1465 wg1463 wg1464 wg12 ⟨by decide, by decide⟩ (by decide +kernel) ⟨by decide, by decide⟩ ⟨by decide, by decide⟩ (d_X11_laysDoors_141) (fun x hx => (hno x hx).elim) ⟨by decide, by decide⟩ ⟨by decide, by decide⟩ (s_add C0 (d_X11_laysDoors_144) hgz (s_iax C0 (d_X11_laysDoors_145) hgz (fun _ _ _ h => h)))))) (okn rfl))))))))) (okn rfl))))),
  s_inc C0 (d_X11_laysDoors_146) hgz (s_goto C0 (tgt := 2) (d_X11_laysDoors_149) (by decide) hgz (fun _ _ _ h => h)),
  s_rv C0 hr (d_X11_laysDoors_152) ⟨by decide, by decide⟩⟩
theorem c_X11_laysDoors (l : Launch) : Ctr l yX11_laysDoors cX11_laysDoors 4 none 11 221 0 (fun sx => (nf G_X11_laysDoors)) := ctr_of (by decide) gz gz ⟨rfl, rfl⟩ (fun p e s m args below meth c D ca ad sx sy A Q as M C0 hE hr hno hF => P_X11_laysDoors (L_X11_laysDoors C0 hE hr hno) hF)
theorem wg1462 : Cond.code ⟨"WeighedHallModel", "laysDoors", "()V"⟩ prog_13_method_33_code 4 (Option.none : Option FieldType) ∈ GT := gt_mem 1582 (by decide +kernel) rfl
theorem wg1459 : Cond.methodLink "WeighedHallModel" 223 ⟨"WeighedHallModel", "laysDoors", "()V"⟩ ∈ GT := gt_mem 1579 (by decide +kernel) rfl
theorem wg1461 : Cond.instanceMethod ⟨"WeighedHallModel", "laysDoors", "()V"⟩ ∈ GT := gt_mem 1581 (by decide +kernel) rfl
theorem ws100 : Cond.selects "WeighedHallModel" ⟨"WeighedHallModel", "laysDoors", "()V"⟩ ⟨"WeighedHallModel", "laysDoors", "()V"⟩ ∈ GT := gt_mem 100 (by decide +kernel) rfl
theorem wg1233 : Cond.fieldLink "WeighedHallModel" 76 "WeighedHallModel" "spentAt" "[I" ∈ GT := gt_mem 1353 (by decide +kernel) rfl
theorem wg1214 : Cond.fieldLink "WeighedHallModel" 31 "WeighedHallModel" "person" "[[I" ∈ GT := gt_mem 1334 (by decide +kernel) rfl
theorem wg1232 : Cond.fieldLink "WeighedHallModel" 73 "WeighedHallModel" "strength" "[I" ∈ GT := gt_mem 1352 (by decide +kernel) rfl
theorem wg1229 : Cond.fieldLink "WeighedHallModel" 64 "WeighedHallModel" "holder" "[I" ∈ GT := gt_mem 1349 (by decide +kernel) rfl
theorem wg1230 : Cond.fieldLink "WeighedHallModel" 67 "WeighedHallModel" "by" "[I" ∈ GT := gt_mem 1350 (by decide +kernel) rfl
theorem d_X11_begins_0 : decode cX11_begins 0 = .ok (.aload_n 0, 1) := by decide +kernel
theorem d_X11_begins_1 : decode cX11_begins 1 = .ok (.invokevirtual 223, 3) := by decide +kernel
theorem d_X11_begins_4 : decode cX11_begins 4 = .ok (.iconst 0, 1) := by decide +kernel
theorem d_X11_begins_5 : decode cX11_begins 5 = .ok (.istore_n 1, 1) := by decide +kernel
theorem d_X11_begins_6 : decode cX11_begins 6 = .ok (.iload_n 1, 1) := by decide +kernel
theorem d_X11_begins_7 : decode cX11_begins 7 = .ok (.aload_n 0, 1) := by decide +kernel
theorem d_X11_begins_8 : decode cX11_begins 8 = .ok (.getfield 23, 3) := by decide +kernel
theorem d_X11_begins_11 : decode cX11_begins 11 = .ok (.iconst 0, 1) := by decide +kernel
theorem d_X11_begins_12 : decode cX11_begins 12 = .ok (.iaload, 1) := by decide +kernel
theorem d_X11_begins_13 : decode cX11_begins 13 = .ok (.if_icmp .ge 33, 3) := by decide +kernel
theorem d_X11_begins_16 : decode cX11_begins 16 = .ok (.aload_n 0, 1) := by decide +kernel
theorem d_X11_begins_17 : decode cX11_begins 17 = .ok (.getfield 73, 3) := by decide +kernel
theorem d_X11_begins_20 : decode cX11_begins 20 = .ok (.iload_n 1, 1) := by decide +kernel
theorem d_X11_begins_21 : decode cX11_begins 21 = .ok (.bipush 60, 2) := by decide +kernel
theorem d_X11_begins_23 : decode cX11_begins 23 = .ok (.aload_n 0, 1) := by decide +kernel
theorem d_X11_begins_24 : decode cX11_begins 24 = .ok (.getfield 31, 3) := by decide +kernel
theorem d_X11_begins_27 : decode cX11_begins 27 = .ok (.iload_n 1, 1) := by decide +kernel
theorem d_X11_begins_28 : decode cX11_begins 28 = .ok (.aaload, 1) := by decide +kernel
theorem d_X11_begins_29 : decode cX11_begins 29 = .ok (.iconst 1, 1) := by decide +kernel
theorem d_X11_begins_30 : decode cX11_begins 30 = .ok (.iaload, 1) := by decide +kernel
theorem d_X11_begins_31 : decode cX11_begins 31 = .ok (.imul, 1) := by decide +kernel
theorem d_X11_begins_32 : decode cX11_begins 32 = .ok (.iastore, 1) := by decide +kernel
theorem d_X11_begins_33 : decode cX11_begins 33 = .ok (.aload_n 0, 1) := by decide +kernel
theorem d_X11_begins_34 : decode cX11_begins 34 = .ok (.getfield 76, 3) := by decide +kernel
theorem d_X11_begins_37 : decode cX11_begins 37 = .ok (.iload_n 1, 1) := by decide +kernel
theorem d_X11_begins_38 : decode cX11_begins 38 = .ok (.iconst (-1), 1) := by decide +kernel
theorem d_X11_begins_39 : decode cX11_begins 39 = .ok (.iastore, 1) := by decide +kernel
theorem d_X11_begins_40 : decode cX11_begins 40 = .ok (.iinc 1 1, 3) := by decide +kernel
theorem d_X11_begins_43 : decode cX11_begins 43 = .ok (.goto (-37), 3) := by decide +kernel
theorem d_X11_begins_46 : decode cX11_begins 46 = .ok (.iconst 0, 1) := by decide +kernel
theorem d_X11_begins_47 : decode cX11_begins 47 = .ok (.istore_n 1, 1) := by decide +kernel
theorem d_X11_begins_48 : decode cX11_begins 48 = .ok (.iload_n 1, 1) := by decide +kernel
theorem d_X11_begins_49 : decode cX11_begins 49 = .ok (.aload_n 0, 1) := by decide +kernel
theorem d_X11_begins_50 : decode cX11_begins 50 = .ok (.getfield 23, 3) := by decide +kernel
theorem d_X11_begins_53 : decode cX11_begins 53 = .ok (.iconst 1, 1) := by decide +kernel
theorem d_X11_begins_54 : decode cX11_begins 54 = .ok (.iaload, 1) := by decide +kernel
theorem d_X11_begins_55 : decode cX11_begins 55 = .ok (.if_icmp .ge 47, 3) := by decide +kernel
theorem d_X11_begins_58 : decode cX11_begins 58 = .ok (.aload_n 0, 1) := by decide +kernel
theorem d_X11_begins_59 : decode cX11_begins 59 = .ok (.getfield 64, 3) := by decide +kernel
theorem d_X11_begins_62 : decode cX11_begins 62 = .ok (.iload_n 1, 1) := by decide +kernel
theorem d_X11_begins_63 : decode cX11_begins 63 = .ok (.aload_n 0, 1) := by decide +kernel
theorem d_X11_begins_64 : decode cX11_begins 64 = .ok (.getfield 37, 3) := by decide +kernel
theorem d_X11_begins_67 : decode cX11_begins 67 = .ok (.iload_n 1, 1) := by decide +kernel
theorem d_X11_begins_68 : decode cX11_begins 68 = .ok (.aaload, 1) := by decide +kernel
theorem d_X11_begins_69 : decode cX11_begins 69 = .ok (.iconst 2, 1) := by decide +kernel
theorem d_X11_begins_70 : decode cX11_begins 70 = .ok (.iaload, 1) := by decide +kernel
theorem d_X11_begins_71 : decode cX11_begins 71 = .ok (.iconst (-1), 1) := by decide +kernel
theorem d_X11_begins_72 : decode cX11_begins 72 = .ok (.if_icmp .ne 14, 3) := by decide +kernel
theorem d_X11_begins_75 : decode cX11_begins 75 = .ok (.aload_n 0, 1) := by decide +kernel
theorem d_X11_begins_76 : decode cX11_begins 76 = .ok (.getfield 37, 3) := by decide +kernel
theorem d_X11_begins_79 : decode cX11_begins 79 = .ok (.iload_n 1, 1) := by decide +kernel
theorem d_X11_begins_80 : decode cX11_begins 80 = .ok (.aaload, 1) := by decide +kernel
theorem d_X11_begins_81 : decode cX11_begins 81 = .ok (.iconst 0, 1) := by decide +kernel
theorem d_X11_begins_82 : decode cX11_begins 82 = .ok (.iaload, 1) := by decide +kernel
theorem d_X11_begins_83 : decode cX11_begins 83 = .ok (.goto 5, 3) := by decide +kernel
theorem d_X11_begins_86 : decode cX11_begins 86 = .ok (.bipush (-2), 2) := by decide +kernel
theorem d_X11_begins_88 : decode cX11_begins 88 = .ok (.iastore, 1) := by decide +kernel
theorem d_X11_begins_89 : decode cX11_begins 89 = .ok (.aload_n 0, 1) := by decide +kernel
theorem d_X11_begins_90 : decode cX11_begins 90 = .ok (.getfield 67, 3) := by decide +kernel
theorem d_X11_begins_93 : decode cX11_begins 93 = .ok (.iload_n 1, 1) := by decide +kernel
theorem d_X11_begins_94 : decode cX11_begins 94 = .ok (.iconst (-1), 1) := by decide +kernel
theorem d_X11_begins_95 : decode cX11_begins 95 = .ok (.iastore, 1) := by decide +kernel
theorem d_X11_begins_96 : decode cX11_begins 96 = .ok (.iinc 1 1, 3) := by decide +kernel
theorem d_X11_begins_99 : decode cX11_begins 99 = .ok (.goto (-51), 3) := by decide +kernel
theorem d_X11_begins_102 : decode cX11_begins 102 = .ok (.return_, 1) := by decide +kernel
set_option maxRecDepth 100000 in
theorem L_X11_begins {p : Program} {l : Launch} {e : Env} {s : State} {m : MethodId} {args : Array Value} {below : List Frame} {meth : Method} {c : Code} {D : va_G} {ca : Nat → ClassId} {ad sx sy : Nat → Nat} {A : Nat → Prop} {Q : QT} (C0 : CX p s m args meth c cX11_begins 2 yX11_begins.cls D ca ad A) (hE : EX sx sy A s s.heap) (hr : meth.sig.returnType = none) (hno : ∀ x ∈ c.exceptionTable.toList, False) : R_X11_begins (JW p l e { frames := 12, cells := 0, slots := 6 * 0, locals := 244 } s m args below meth c 2 D ca ad A (vx_MQ below (Qn D ca ad A Q) (Qx D ca ad A Q) args s 0 (6 * 0) A) gz gz true) Q := ⟨s_aln C0 (d_X11_begins_0) hgz (s_callV C0 hE (c_X11_laysDoors l) wg1462 wg1459 wg1461 ws100 wg12 ⟨by decide, by decide⟩ (by decide +kernel) (c0 := 11) rfl ⟨by decide, by decide⟩ ⟨by decide, by decide⟩ (d_X11_begins_1) (fun x hx => (hno x hx).elim) ⟨by decide, by decide⟩ ⟨by decide, by decide⟩ (s_ic C0 (d_X11_begins_4) hgz (s_isn C0 (d_X11_begins_5) hgz (fun _ _ _ h => h)) (okn rfl))),
  s_iln C0 (d_X11_begins_6) hgz (s_aln C0 (d_X11_begins_7) hgz (s_gr C0 (j := 11) (c0 := 11) rfl gX11 (by decide) rfl rfl wg1212 (d_X11_begins_8) hgz (s_ic C0 (d_X11_begins_11) hgz (s_ia C0 (d_X11_begins_12) hgz (s_cge C0 (d_X11_begins_13) (by decide) hgz hgz (fun _ _ _ h => h) (s_aln C0 (d_X11_begins_16) hgz (s_gr C0 (j := 31) (c0 := 11) rfl gX11 (by decide) rfl rfl wg1232 (d_X11_begins_17) hgz (s_iln C0 (d_X11_begins_20) hgz (s_bi C0 (d_X11_begins_21) hgz (s_aln C0 (d_X11_begins_23) hgz (s_gr C0 (j := 13) (c0 := 11) rfl gX11 (by decide) rfl rfl wg1214 (d_X11_begins_24) hgz (s_iln C0 (d_X11_begins_27) hgz (s_aa C0 (by decide) (by decide) rfl rfl (d_X11_begins_28) hgz (s_ic C0 (d_X11_begins_29) hgz (s_ia C0 (d_X11_begins_30) hgz (s_mul C0 (d_X11_begins_31) hgz (s_iax C0 (d_X11_begins_32) hgz (s_aln C0 (d_X11_begins_33) hgz (s_gr C0 (j := 32) (c0 := 11) rfl gX11 (by decide) rfl rfl wg1233 (d_X11_begins_34) hgz (s_iln C0 (d_X11_begins_37) hgz (s_ic C0 (d_X11_begins_38) hgz (s_iax C0 (d_X11_begins_39) hgz (s_inc C0 (d_X11_begins_40) hgz (s_goto C0 (tgt := 6) (d_X11_begins_43) (by decide) hgz (fun _ _ _ h => h)))) (okn rfl)))))))) (okn rfl)))))) (okn rfl) rfl)))))) (okn rfl)))),
  s_ic C0 (d_X11_begins_46) hgz (s_isn C0 (d_X11_begins_47) hgz (fun _ _ _ h => h)) (okn rfl),
  s_iln C0 (d_X11_begins_48) hgz (s_aln C0 (d_X11_begins_49) hgz (s_gr C0 (j := 11) (c0 := 11) rfl gX11 (by decide) rfl rfl wg1212 (d_X11_begins_50) hgz (s_ic C0 (d_X11_begins_53) hgz (s_ia C0 (d_X11_begins_54) hgz (s_cge C0 (d_X11_begins_55) (by decide) hgz hgz (fun _ _ _ h => h) (s_aln C0 (d_X11_begins_58) hgz (s_gr C0 (j := 28) (c0 := 11) rfl gX11 (by decide) rfl rfl wg1229 (d_X11_begins_59) hgz (s_iln C0 (d_X11_begins_62) hgz (s_aln C0 (d_X11_begins_63) hgz (s_gr C0 (j := 15) (c0 := 11) rfl gX11 (by decide) rfl rfl wg1216 (d_X11_begins_64) hgz (s_iln C0 (d_X11_begins_67) hgz (s_aa C0 (by decide) (by decide) rfl rfl (d_X11_begins_68) hgz (s_ic C0 (d_X11_begins_69) hgz (s_ia C0 (d_X11_begins_70) hgz (s_ic C0 (d_X11_begins_71) hgz (s_cne C0 (d_X11_begins_72) (by decide) hgz hgz (fun _ _ _ h => h) (s_aln C0 (d_X11_begins_75) hgz (s_gr C0 (j := 15) (c0 := 11) rfl gX11 (by decide) rfl rfl wg1216 (d_X11_begins_76) hgz (s_iln C0 (d_X11_begins_79) hgz (s_aa C0 (by decide) (by decide) rfl rfl (d_X11_begins_80) hgz (s_ic C0 (d_X11_begins_81) hgz (s_ia C0 (d_X11_begins_82) hgz (s_goto C0 (tgt := 88) (d_X11_begins_83) (by decide) hgz (fun _ _ _ h => h))) (okn rfl))))))) (okn rfl))) (okn rfl))))))))))) (okn rfl)))),
  s_bi C0 (d_X11_begins_86) hgz (fun _ _ _ h => h) (okn rfl) rfl,
  s_iax C0 (d_X11_begins_88) hgz (s_aln C0 (d_X11_begins_89) hgz (s_gr C0 (j := 29) (c0 := 11) rfl gX11 (by decide) rfl rfl wg1230 (d_X11_begins_90) hgz (s_iln C0 (d_X11_begins_93) hgz (s_ic C0 (d_X11_begins_94) hgz (s_iax C0 (d_X11_begins_95) hgz (s_inc C0 (d_X11_begins_96) hgz (s_goto C0 (tgt := 48) (d_X11_begins_99) (by decide) hgz (fun _ _ _ h => h)))) (okn rfl))))),
  s_rv C0 hr (d_X11_begins_102) ⟨by decide, by decide⟩⟩
theorem c_X11_begins (l : Launch) : Ctr l yX11_begins cX11_begins 2 none 12 244 0 (fun sx => (nf G_X11_begins)) := ctr_of (by decide) gz gz ⟨rfl, rfl⟩ (fun p e s m args below meth c D ca ad sx sy A Q as M C0 hE hr hno hF => P_X11_begins (L_X11_begins C0 hE hr hno) hF)
