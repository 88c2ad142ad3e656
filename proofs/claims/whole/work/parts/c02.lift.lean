theorem d_X9_hasMore_0 : decode cX9_hasMore 0 = .ok (.aload_n 0, 1) := by decide +kernel
theorem d_X9_hasMore_1 : decode cX9_hasMore 1 = .ok (.invokevirtual 40, 3) := by decide +kernel
theorem d_X9_hasMore_4 : decode cX9_hasMore 4 = .ok (.ifCond .ne 5, 3) := by decide +kernel
theorem d_X9_hasMore_7 : decode cX9_hasMore 7 = .ok (.iconst 0, 1) := by decide +kernel
theorem d_X9_hasMore_8 : decode cX9_hasMore 8 = .ok (.ireturn, 1) := by decide +kernel
theorem d_X9_hasMore_9 : decode cX9_hasMore 9 = .ok (.aload_n 0, 1) := by decide +kernel
theorem d_X9_hasMore_10 : decode cX9_hasMore 10 = .ok (.invokevirtual 44, 3) := by decide +kernel
theorem d_X9_hasMore_13 : decode cX9_hasMore 13 = .ok (.aload_n 0, 1) := by decide +kernel
theorem d_X9_hasMore_14 : decode cX9_hasMore 14 = .ok (.getfield 34, 3) := by decide +kernel
theorem d_X9_hasMore_17 : decode cX9_hasMore 17 = .ok (.aload_n 0, 1) := by decide +kernel
theorem d_X9_hasMore_18 : decode cX9_hasMore 18 = .ok (.getfield 31, 3) := by decide +kernel
theorem d_X9_hasMore_21 : decode cX9_hasMore 21 = .ok (.if_icmp .ge 7, 3) := by decide +kernel
theorem d_X9_hasMore_24 : decode cX9_hasMore 24 = .ok (.iconst 1, 1) := by decide +kernel
theorem d_X9_hasMore_25 : decode cX9_hasMore 25 = .ok (.goto 4, 3) := by decide +kernel
theorem d_X9_hasMore_28 : decode cX9_hasMore 28 = .ok (.iconst 0, 1) := by decide +kernel
theorem d_X9_hasMore_29 : decode cX9_hasMore 29 = .ok (.ireturn, 1) := by decide +kernel
set_option maxRecDepth 100000 in
theorem L_X9_hasMore {p : Program} {l : Launch} {e : Env} {s : State} {m : MethodId} {args : Array Value} {below : List Frame} {meth : Method} {c : Code} {D : va_G} {ca : Nat → ClassId} {ad sx sy : Nat → Nat} {A : Nat → Prop} {Q : QT} (C0 : CX p s m args meth c cX9_hasMore 1 yX9_hasMore.cls D ca ad A) (hE : EX sx sy A s s.heap) (hr : meth.sig.returnType = (some .boolean)) (hno : ∀ x ∈ c.exceptionTable.toList, False) : R_X9_hasMore (JW p l e { frames := 11, cells := 0, slots := 6 * 0, locals := 220 } s m args below meth c 1 D ca ad A (vx_MQ below (Qn D ca ad A Q) (Qx D ca ad A Q) args s 0 (6 * 0) A) gz gz true) Q := ⟨s_aln C0 (d_X9_hasMore_0) hgz (s_callV C0 hE (c_X9_isSound l) wg648 wg645 wg647 ws18 wg2 ⟨by decide, by decide⟩ (by decide +kernel) (c0 := 9) rfl ⟨by decide, by decide⟩ ⟨by decide, by decide⟩ (d_X9_hasMore_1) (fun x hx => (hno x hx).elim) ⟨by decide, by decide⟩ ⟨by decide, by decide⟩ (s_zne C0 (d_X9_hasMore_4) (by decide) hgz hgz (fun _ _ _ h => h) (s_ic C0 (d_X9_hasMore_7) hgz (s_rz C0 hr (d_X9_hasMore_8) ⟨by decide, by decide⟩) (okn rfl)))),
  s_aln C0 (d_X9_hasMore_9) hgz (s_callV C0 hE (c_X9_skipBlanks l) wg652 wg649 wg651 ws19 wg2 ⟨by decide, by decide⟩ (by decide +kernel) (c0 := 9) rfl ⟨by decide, by decide⟩ ⟨by decide, by decide⟩ (d_X9_hasMore_10) (fun x hx => (hno x hx).elim) ⟨by decide, by decide⟩ ⟨by decide, by decide⟩ (s_aln C0 (d_X9_hasMore_13) hgz (s_gi C0 (j := 3) (c0 := 9) rfl gX9 (by decide) rfl (by decide) wg43 (d_X9_hasMore_14) hgz (s_aln C0 (d_X9_hasMore_17) hgz (s_gi C0 (j := 2) (c0 := 9) rfl gX9 (by decide) rfl (by decide) wg42 (d_X9_hasMore_18) hgz (s_cge C0 (d_X9_hasMore_21) (by decide) hgz hgz (fun _ _ _ h => h) (s_ic C0 (d_X9_hasMore_24) hgz (s_goto C0 (tgt := 29) (d_X9_hasMore_25) (by decide) hgz (fun _ _ _ h => h)) (okn rfl)))))))),
  s_ic C0 (d_X9_hasMore_28) hgz (fun _ _ _ h => h) (okn rfl),
  s_rz C0 hr (d_X9_hasMore_29) ⟨by decide, by decide⟩⟩
theorem c_X9_hasMore (l : Launch) : Ctr l yX9_hasMore cX9_hasMore 1 (some .boolean) 11 220 0 (fun sx => (nf G_X9_hasMore)) := ctr_of (by decide) gz gz ⟨rfl, rfl⟩ (fun p e s m args below meth c D ca ad sx sy A Q as M C0 hE hr hno hF => P_X9_hasMore (L_X9_hasMore C0 hE hr hno) hF)
theorem d_X9_refuse_0 : decode cX9_refuse 0 = .ok (.aload_n 0, 1) := by decide +kernel
theorem d_X9_refuse_1 : decode cX9_refuse 1 = .ok (.invokevirtual 40, 3) := by decide +kernel
theorem d_X9_refuse_4 : decode cX9_refuse 4 = .ok (.ifCond .eq 16, 3) := by decide +kernel
theorem d_X9_refuse_7 : decode cX9_refuse 7 = .ok (.aload_n 0, 1) := by decide +kernel
theorem d_X9_refuse_8 : decode cX9_refuse 8 = .ok (.iload_n 1, 1) := by decide +kernel
theorem d_X9_refuse_9 : decode cX9_refuse 9 = .ok (.putfield 15, 3) := by decide +kernel
theorem d_X9_refuse_12 : decode cX9_refuse 12 = .ok (.aload_n 0, 1) := by decide +kernel
theorem d_X9_refuse_13 : decode cX9_refuse 13 = .ok (.aload_n 0, 1) := by decide +kernel
theorem d_X9_refuse_14 : decode cX9_refuse 14 = .ok (.getfield 37, 3) := by decide +kernel
theorem d_X9_refuse_17 : decode cX9_refuse 17 = .ok (.putfield 19, 3) := by decide +kernel
theorem d_X9_refuse_20 : decode cX9_refuse 20 = .ok (.return_, 1) := by decide +kernel
set_option maxRecDepth 100000 in
theorem L_X9_refuse {p : Program} {l : Launch} {e : Env} {s : State} {m : MethodId} {args : Array Value} {below : List Frame} {meth : Method} {c : Code} {D : va_G} {ca : Nat → ClassId} {ad sx sy : Nat → Nat} {A : Nat → Prop} {Q : QT} (C0 : CX p s m args meth c cX9_refuse 2 yX9_refuse.cls D ca ad A) (hE : EX sx sy A s s.heap) (hr : meth.sig.returnType = none) (hno : ∀ x ∈ c.exceptionTable.toList, False) : R_X9_refuse (JW p l e { frames := 11, cells := 0, slots := 6 * 0, locals := 220 } s m args below meth c 2 D ca ad A (vx_MQ below (Qn D ca ad A Q) (Qx D ca ad A Q) args s 0 (6 * 0) A) gz gz true) Q := ⟨s_aln C0 (d_X9_refuse_0) hgz (s_callV C0 hE (c_X9_isSound l) wg648 wg645 wg647 ws18 wg2 ⟨by decide, by decide⟩ (by decide +kernel) (c0 := 9) rfl ⟨by decide, by decide⟩ ⟨by decide, by decide⟩ (d_X9_refuse_1) (fun x hx => (hno x hx).elim) ⟨by decide, by decide⟩ ⟨by decide, by decide⟩ (s_zeq C0 (d_X9_refuse_4) (by decide) hgz hgz (fun _ _ _ h => h) (s_aln C0 (d_X9_refuse_7) hgz (s_iln C0 (d_X9_refuse_8) hgz (s_pi C0 (j := 5) (c0 := 9) rfl gX9 tyX9_ok nmX9 (by decide) rfl (by decide) rfl rfl wg45 (d_X9_refuse_9) hgz (s_aln C0 (d_X9_refuse_12) hgz (s_aln C0 (d_X9_refuse_13) hgz (s_gi C0 (j := 4) (c0 := 9) rfl gX9 (by decide) rfl (by decide) wg44 (d_X9_refuse_14) hgz (s_pi C0 (j := 6) (c0 := 9) rfl gX9 tyX9_ok nmX9 (by decide) rfl (by decide) rfl rfl wg47 (d_X9_refuse_17) hgz (fun _ _ _ h => h)))))))))),
  s_rv C0 hr (d_X9_refuse_20) ⟨by decide, by decide⟩⟩
theorem c_X9_refuse (l : Launch) : Ctr l yX9_refuse cX9_refuse 2 none 11 220 0 (fun sx => (nf G_X9_refuse)) := ctr_of (by decide) gz gz ⟨rfl, rfl⟩ (fun p e s m args below meth c D ca ad sx sy A Q as M C0 hE hr hno hF => P_X9_refuse (L_X9_refuse C0 hE hr hno) hF)
theorem wg720 : Cond.code ⟨"WeighedHall$Tape", "refuse", "(I)V"⟩ prog_11_method_5_code 2 (Option.none : Option FieldType) ∈ GT := gt_mem 840 (by decide +kernel) rfl
theorem wg730 : Cond.methodLink "WeighedHall$Tape" 58 ⟨"WeighedHall$Tape", "refuse", "(I)V"⟩ ∈ GT := gt_mem 850 (by decide +kernel) rfl
theorem wg719 : Cond.instanceMethod ⟨"WeighedHall$Tape", "refuse", "(I)V"⟩ ∈ GT := gt_mem 839 (by decide +kernel) rfl
theorem ws23 : Cond.selects "WeighedHall$Tape" ⟨"WeighedHall$Tape", "refuse", "(I)V"⟩ ⟨"WeighedHall$Tape", "refuse", "(I)V"⟩ ∈ GT := gt_mem 23 (by decide +kernel) rfl
theorem d_X9_readStop_0 : decode cX9_readStop 0 = .ok (.aload_n 0, 1) := by decide +kernel
theorem d_X9_readStop_1 : decode cX9_readStop 1 = .ok (.invokevirtual 40, 3) := by decide +kernel
theorem d_X9_readStop_4 : decode cX9_readStop 4 = .ok (.ifCond .ne 4, 3) := by decide +kernel
theorem d_X9_readStop_7 : decode cX9_readStop 7 = .ok (.return_, 1) := by decide +kernel
theorem d_X9_readStop_8 : decode cX9_readStop 8 = .ok (.aload_n 0, 1) := by decide +kernel
theorem d_X9_readStop_9 : decode cX9_readStop 9 = .ok (.invokevirtual 44, 3) := by decide +kernel
theorem d_X9_readStop_12 : decode cX9_readStop 12 = .ok (.aload_n 0, 1) := by decide +kernel
theorem d_X9_readStop_13 : decode cX9_readStop 13 = .ok (.getfield 34, 3) := by decide +kernel
theorem d_X9_readStop_16 : decode cX9_readStop 16 = .ok (.aload_n 0, 1) := by decide +kernel
theorem d_X9_readStop_17 : decode cX9_readStop 17 = .ok (.getfield 31, 3) := by decide +kernel
theorem d_X9_readStop_20 : decode cX9_readStop 20 = .ok (.if_icmp .ge 30, 3) := by decide +kernel
theorem d_X9_readStop_23 : decode cX9_readStop 23 = .ok (.aload_n 0, 1) := by decide +kernel
theorem d_X9_readStop_24 : decode cX9_readStop 24 = .ok (.getfield 9, 3) := by decide +kernel
theorem d_X9_readStop_27 : decode cX9_readStop 27 = .ok (.aload_n 0, 1) := by decide +kernel
theorem d_X9_readStop_28 : decode cX9_readStop 28 = .ok (.getfield 34, 3) := by decide +kernel
theorem d_X9_readStop_31 : decode cX9_readStop 31 = .ok (.baload, 1) := by decide +kernel
theorem d_X9_readStop_32 : decode cX9_readStop 32 = .ok (.bipush 59, 2) := by decide +kernel
theorem d_X9_readStop_34 : decode cX9_readStop 34 = .ok (.if_icmp .ne 16, 3) := by decide +kernel
theorem d_X9_readStop_37 : decode cX9_readStop 37 = .ok (.aload_n 0, 1) := by decide +kernel
theorem d_X9_readStop_38 : decode cX9_readStop 38 = .ok (.dup, 1) := by decide +kernel
theorem d_X9_readStop_39 : decode cX9_readStop 39 = .ok (.getfield 34, 3) := by decide +kernel
theorem d_X9_readStop_42 : decode cX9_readStop 42 = .ok (.iconst 1, 1) := by decide +kernel
theorem d_X9_readStop_43 : decode cX9_readStop 43 = .ok (.iadd, 1) := by decide +kernel
theorem d_X9_readStop_44 : decode cX9_readStop 44 = .ok (.putfield 34, 3) := by decide +kernel
theorem d_X9_readStop_47 : decode cX9_readStop 47 = .ok (.goto 8, 3) := by decide +kernel
theorem d_X9_readStop_50 : decode cX9_readStop 50 = .ok (.aload_n 0, 1) := by decide +kernel
theorem d_X9_readStop_51 : decode cX9_readStop 51 = .ok (.iconst 1, 1) := by decide +kernel
theorem d_X9_readStop_52 : decode cX9_readStop 52 = .ok (.invokevirtual 58, 3) := by decide +kernel
theorem d_X9_readStop_55 : decode cX9_readStop 55 = .ok (.return_, 1) := by decide +kernel
set_option maxRecDepth 100000 in
theorem L_X9_readStop {p : Program} {l : Launch} {e : Env} {s : State} {m : MethodId} {args : Array Value} {below : List Frame} {meth : Method} {c : Code} {D : va_G} {ca : Nat → ClassId} {ad sx sy : Nat → Nat} {A : Nat → Prop} {Q : QT} (C0 : CX p s m args meth c cX9_readStop 1 yX9_readStop.cls D ca ad A) (hE : EX sx sy A s s.heap) (hr : meth.sig.returnType = none) (hno : ∀ x ∈ c.exceptionTable.toList, False) : R_X9_readStop (JW p l e { frames := 12, cells := 0, slots := 6 * 0, locals := 241 } s m args below meth c 1 D ca ad A (vx_MQ below (Qn D ca ad A Q) (Qx D ca ad A Q) args s 0 (6 * 0) A) gz gz true) Q := ⟨s_aln C0 (d_X9_readStop_0) hgz (s_callV C0 hE (c_X9_isSound l) wg648 wg645 wg647 ws18 wg2 ⟨by decide, by decide⟩ (by decide +kernel) (c0 := 9) rfl ⟨by decide, by decide⟩ ⟨by decide, by decide⟩ (d_X9_readStop_1) (fun x hx => (hno x hx).elim) ⟨by decide, by decide⟩ ⟨by decide, by decide⟩ (s_zne C0 (d_X9_readStop_4) (by decide) hgz hgz (fun _ _ _ h => h) (s_rv C0 hr (d_X9_readStop_7) ⟨by decide, by decide⟩))),
  s_aln C0 (d_X9_readStop_8) hgz (s_callV C0 hE (c_X9_skipBlanks l) wg652 wg649 wg651 ws19 wg2 ⟨by decide, by decide⟩ (by decide +kernel) (c0 := 9) rfl ⟨by decide, by decide⟩ ⟨by decide, by decide⟩ (d_X9_readStop_9) (fun x hx => (hno x hx).elim) ⟨by decide, by decide⟩ ⟨by decide, by decide⟩ (s_aln C0 (d_X9_readStop_12) hgz (s_gi C0 (j := 3) (c0 := 9) rfl gX9 (by decide) rfl (by decide) wg43 (d_X9_readStop_13) hgz (s_aln C0 (d_X9_readStop_16) hgz (s_gi C0 (j := 2) (c0 := 9) rfl gX9 (by decide) rfl (by decide) wg42 (d_X9_readStop_17) hgz (s_cge C0 (d_X9_readStop_20) (by decide) hgz hgz (fun _ _ _ h => h) (s_aln C0 (d_X9_readStop_23) hgz (s_gr C0 (j := 0) (c0 := 9) rfl gX9 (by decide) rfl rfl wg39 (d_X9_readStop_24) hgz (s_aln C0 (d_X9_readStop_27) hgz (s_gi C0 (j := 3) (c0 := 9) rfl gX9 (by decide) rfl (by decide) wg43 (d_X9_readStop_28) hgz (s_ba C0 (d_X9_readStop_31) hgz (s_bi C0 (d_X9_readStop_32) hgz (s_cne C0 (d_X9_readStop_34) (by decide) hgz hgz (fun _ _ _ h => h) (s_aln C0 (d_X9_readStop_37) hgz (s_dup C0 (d_X9_readStop_38) hgz (s_gi C0 (j := 3) (c0 := 9) rfl gX9 (by decide) rfl (by decide) wg43 (d_X9_readStop_39) hgz (s_ic C0 (d_X9_readStop_42) hgz (s_add C0 (d_X9_readStop_43) hgz (s_pi C0 (j := 3) (c0 := 9) rfl gX9 tyX9_ok nmX9 (by decide) rfl (by decide) rfl rfl wg43 (d_X9_readStop_44) hgz (s_goto C0 (tgt := 55) (d_X9_readStop_47) (by decide) hgz (fun _ _ _ h => h)))) (okn rfl)))))) (okn rfl) rfl)))))))))))),
  s_aln C0 (d_X9_readStop_50) hgz (s_ic C0 (d_X9_readStop_51) hgz (s_callV C0 hE (c_X9_refuse l) wg720 wg730 wg719 ws23 wg2 ⟨by decide, by decide⟩ (by decide +kernel) (c0 := 9) rfl ⟨by decide, by decide⟩ ⟨by decide, by decide⟩ (d_X9_readStop_52) (fun x hx => (hno x hx).elim) ⟨by decide, by decide⟩ ⟨by decide, by decide⟩ (fun _ _ _ h => h)) (okn rfl)),
  s_rv C0 hr (d_X9_readStop_55) ⟨by decide, by decide⟩⟩
theorem c_X9_readStop (l : Launch) : Ctr l yX9_readStop cX9_readStop 1 none 12 241 0 (fun sx => (nf G_X9_readStop)) := ctr_of (by decide) gz gz ⟨rfl, rfl⟩ (fun p e s m args below meth c D ca ad sx sy A Q as M C0 hE hr hno hF => P_X9_readStop (L_X9_readStop C0 hE hr hno) hF)
theorem wg729 : Cond.constant "WeighedHall$Tape" 57 1000000 ∈ GT := gt_mem 849 (by decide +kernel) rfl
theorem d_X9_readNumber_0 : decode cX9_readNumber 0 = .ok (.aload_n 0, 1) := by decide +kernel
theorem d_X9_readNumber_1 : decode cX9_readNumber 1 = .ok (.invokevirtual 40, 3) := by decide +kernel
theorem d_X9_readNumber_4 : decode cX9_readNumber 4 = .ok (.ifCond .ne 5, 3) := by decide +kernel
theorem d_X9_readNumber_7 : decode cX9_readNumber 7 = .ok (.iconst (-1), 1) := by decide +kernel
theorem d_X9_readNumber_8 : decode cX9_readNumber 8 = .ok (.ireturn, 1) := by decide +kernel
theorem d_X9_readNumber_9 : decode cX9_readNumber 9 = .ok (.aload_n 0, 1) := by decide +kernel
theorem d_X9_readNumber_10 : decode cX9_readNumber 10 = .ok (.invokevirtual 44, 3) := by decide +kernel
theorem d_X9_readNumber_13 : decode cX9_readNumber 13 = .ok (.iconst 0, 1) := by decide +kernel
theorem d_X9_readNumber_14 : decode cX9_readNumber 14 = .ok (.istore_n 3, 1) := by decide +kernel
theorem d_X9_readNumber_15 : decode cX9_readNumber 15 = .ok (.aload_n 0, 1) := by decide +kernel
theorem d_X9_readNumber_16 : decode cX9_readNumber 16 = .ok (.getfield 34, 3) := by decide +kernel
theorem d_X9_readNumber_19 : decode cX9_readNumber 19 = .ok (.aload_n 0, 1) := by decide +kernel
theorem d_X9_readNumber_20 : decode cX9_readNumber 20 = .ok (.getfield 31, 3) := by decide +kernel
theorem d_X9_readNumber_23 : decode cX9_readNumber 23 = .ok (.if_icmp .ge 67, 3) := by decide +kernel
theorem d_X9_readNumber_26 : decode cX9_readNumber 26 = .ok (.aload_n 0, 1) := by decide +kernel
theorem d_X9_readNumber_27 : decode cX9_readNumber 27 = .ok (.getfield 9, 3) := by decide +kernel
theorem d_X9_readNumber_30 : decode cX9_readNumber 30 = .ok (.aload_n 0, 1) := by decide +kernel
theorem d_X9_readNumber_31 : decode cX9_readNumber 31 = .ok (.getfield 34, 3) := by decide +kernel
theorem d_X9_readNumber_34 : decode cX9_readNumber 34 = .ok (.baload, 1) := by decide +kernel
theorem d_X9_readNumber_35 : decode cX9_readNumber 35 = .ok (.bipush 48, 2) := by decide +kernel
theorem d_X9_readNumber_37 : decode cX9_readNumber 37 = .ok (.if_icmp .lt 53, 3) := by decide +kernel
theorem d_X9_readNumber_40 : decode cX9_readNumber 40 = .ok (.aload_n 0, 1) := by decide +kernel
theorem d_X9_readNumber_41 : decode cX9_readNumber 41 = .ok (.getfield 9, 3) := by decide +kernel
theorem d_X9_readNumber_44 : decode cX9_readNumber 44 = .ok (.aload_n 0, 1) := by decide +kernel
theorem d_X9_readNumber_45 : decode cX9_readNumber 45 = .ok (.getfield 34, 3) := by decide +kernel
theorem d_X9_readNumber_48 : decode cX9_readNumber 48 = .ok (.baload, 1) := by decide +kernel
theorem d_X9_readNumber_49 : decode cX9_readNumber 49 = .ok (.bipush 57, 2) := by decide +kernel
theorem d_X9_readNumber_51 : decode cX9_readNumber 51 = .ok (.if_icmp .gt 39, 3) := by decide +kernel
theorem d_X9_readNumber_54 : decode cX9_readNumber 54 = .ok (.iload_n 3, 1) := by decide +kernel
theorem d_X9_readNumber_55 : decode cX9_readNumber 55 = .ok (.bipush 10, 2) := by decide +kernel
theorem d_X9_readNumber_57 : decode cX9_readNumber 57 = .ok (.imul, 1) := by decide +kernel
theorem d_X9_readNumber_58 : decode cX9_readNumber 58 = .ok (.aload_n 0, 1) := by decide +kernel
theorem d_X9_readNumber_59 : decode cX9_readNumber 59 = .ok (.getfield 9, 3) := by decide +kernel
theorem d_X9_readNumber_62 : decode cX9_readNumber 62 = .ok (.aload_n 0, 1) := by decide +kernel
theorem d_X9_readNumber_63 : decode cX9_readNumber 63 = .ok (.getfield 34, 3) := by decide +kernel
theorem d_X9_readNumber_66 : decode cX9_readNumber 66 = .ok (.baload, 1) := by decide +kernel
theorem d_X9_readNumber_67 : decode cX9_readNumber 67 = .ok (.iadd, 1) := by decide +kernel
theorem d_X9_readNumber_68 : decode cX9_readNumber 68 = .ok (.bipush 48, 2) := by decide +kernel
theorem d_X9_readNumber_70 : decode cX9_readNumber 70 = .ok (.isub, 1) := by decide +kernel
theorem d_X9_readNumber_71 : decode cX9_readNumber 71 = .ok (.ldc 57, 2) := by decide +kernel
theorem d_X9_readNumber_73 : decode cX9_readNumber 73 = .ok (.invokestatic 25, 3) := by decide +kernel
theorem d_X9_readNumber_76 : decode cX9_readNumber 76 = .ok (.istore_n 3, 1) := by decide +kernel
theorem d_X9_readNumber_77 : decode cX9_readNumber 77 = .ok (.aload_n 0, 1) := by decide +kernel
theorem d_X9_readNumber_78 : decode cX9_readNumber 78 = .ok (.dup, 1) := by decide +kernel
theorem d_X9_readNumber_79 : decode cX9_readNumber 79 = .ok (.getfield 34, 3) := by decide +kernel
theorem d_X9_readNumber_82 : decode cX9_readNumber 82 = .ok (.iconst 1, 1) := by decide +kernel
theorem d_X9_readNumber_83 : decode cX9_readNumber 83 = .ok (.iadd, 1) := by decide +kernel
theorem d_X9_readNumber_84 : decode cX9_readNumber 84 = .ok (.putfield 34, 3) := by decide +kernel
theorem d_X9_readNumber_87 : decode cX9_readNumber 87 = .ok (.goto (-72), 3) := by decide +kernel
theorem d_X9_readNumber_90 : decode cX9_readNumber 90 = .ok (.aload_n 0, 1) := by decide +kernel
theorem d_X9_readNumber_91 : decode cX9_readNumber 91 = .ok (.getfield 34, 3) := by decide +kernel
theorem d_X9_readNumber_94 : decode cX9_readNumber 94 = .ok (.aload_n 0, 1) := by decide +kernel
theorem d_X9_readNumber_95 : decode cX9_readNumber 95 = .ok (.getfield 37, 3) := by decide +kernel
theorem d_X9_readNumber_98 : decode cX9_readNumber 98 = .ok (.if_icmp .ne 11, 3) := by decide +kernel
theorem d_X9_readNumber_101 : decode cX9_readNumber 101 = .ok (.aload_n 0, 1) := by decide +kernel
theorem d_X9_readNumber_102 : decode cX9_readNumber 102 = .ok (.iconst 1, 1) := by decide +kernel
theorem d_X9_readNumber_103 : decode cX9_readNumber 103 = .ok (.invokevirtual 58, 3) := by decide +kernel
theorem d_X9_readNumber_106 : decode cX9_readNumber 106 = .ok (.goto 18, 3) := by decide +kernel
theorem d_X9_readNumber_109 : decode cX9_readNumber 109 = .ok (.iload_n 3, 1) := by decide +kernel
theorem d_X9_readNumber_110 : decode cX9_readNumber 110 = .ok (.iload_n 1, 1) := by decide +kernel
theorem d_X9_readNumber_111 : decode cX9_readNumber 111 = .ok (.if_icmp .lt 8, 3) := by decide +kernel
theorem d_X9_readNumber_114 : decode cX9_readNumber 114 = .ok (.iload_n 3, 1) := by decide +kernel
theorem d_X9_readNumber_115 : decode cX9_readNumber 115 = .ok (.iload_n 2, 1) := by decide +kernel
theorem d_X9_readNumber_116 : decode cX9_readNumber 116 = .ok (.if_icmp .le 8, 3) := by decide +kernel
theorem d_X9_readNumber_119 : decode cX9_readNumber 119 = .ok (.aload_n 0, 1) := by decide +kernel
theorem d_X9_readNumber_120 : decode cX9_readNumber 120 = .ok (.iconst 2, 1) := by decide +kernel
theorem d_X9_readNumber_121 : decode cX9_readNumber 121 = .ok (.invokevirtual 58, 3) := by decide +kernel
theorem d_X9_readNumber_124 : decode cX9_readNumber 124 = .ok (.iload_n 3, 1) := by decide +kernel
theorem d_X9_readNumber_125 : decode cX9_readNumber 125 = .ok (.ireturn, 1) := by decide +kernel
set_option maxRecDepth 100000 in
theorem L_X9_readNumber {p : Program} {l : Launch} {e : Env} {s : State} {m : MethodId} {args : Array Value} {below : List Frame} {meth : Method} {c : Code} {D : va_G} {ca : Nat → ClassId} {ad sx sy : Nat → Nat} {A : Nat → Prop} {Q : QT} (C0 : CX p s m args meth c cX9_readNumber 4 yX9_readNumber.cls D ca ad A) (hE : EX sx sy A s s.heap) (hr : meth.sig.returnType = (some .int)) (hno : ∀ x ∈ c.exceptionTable.toList, False) : R_X9_readNumber (JW p l e { frames := 12, cells := 0, slots := 6 * 0, locals := 241 } s m args below meth c 4 D ca ad A (vx_MQ below (Qn D ca ad A Q) (Qx D ca ad A Q) args s 0 (6 * 0) A) gz gz true) Q := ⟨s_aln C0 (d_X9_readNumber_0) hgz (s_callV C0 hE (c_X9_isSound l) wg648 wg645 wg647 ws18 wg2 ⟨by decide, by decide⟩ (by decide +kernel) (c0 := 9) rfl ⟨by decide, by decide⟩ ⟨by decide, by decide⟩ (d_X9_readNumber_1) (fun x hx => (hno x hx).elim) ⟨by decide, by decide⟩ ⟨by decide, by decide⟩ (s_zne C0 (d_X9_readNumber_4) (by decide) hgz hgz (fun _ _ _ h => h) (s_ic C0 (d_X9_readNumber_7) hgz (s_ri C0 hr (d_X9_readNumber_8) ⟨by decide, by decide⟩) (okn rfl)))),
  s_aln C0 (d_X9_readNumber_9) hgz (s_callV C0 hE (c_X9_skipBlanks l) wg652 wg649 wg651 ws19 wg2 ⟨by decide, by decide⟩ (by decide +kernel) (c0 := 9) rfl ⟨by decide, by decide⟩ ⟨by decide, by decide⟩ (d_X9_readNumber_10) (fun x hx => (hno x hx).elim) ⟨by decide, by decide⟩ ⟨by decide, by decide⟩ (s_ic C0 (d_X9_readNumber_13) hgz (s_isn C0 (d_X9_readNumber_14) hgz (fun _ _ _ h => h)) (okn rfl))),
  s_aln C0 (d_X9_readNumber_15) hgz (s_gi C0 (j := 3) (c0 := 9) rfl gX9 (by decide) rfl (by decide) wg43 (d_X9_readNumber_16) hgz (s_aln C0 (d_X9_readNumber_19) hgz (s_gi C0 (j := 2) (c0 := 9) rfl gX9 (by decide) rfl (by decide) wg42 (d_X9_readNumber_20) hgz (s_cge C0 (d_X9_readNumber_23) (by decide) hgz hgz (fun _ _ _ h => h) (s_aln C0 (d_X9_readNumber_26) hgz (s_gr C0 (j := 0) (c0 := 9) rfl gX9 (by decide) rfl rfl wg39 (d_X9_readNumber_27) hgz (s_aln C0 (d_X9_readNumber_30) hgz (s_gi C0 (j := 3) (c0 := 9) rfl gX9 (by decide) rfl (by decide) wg43 (d_X9_readNumber_31) hgz (s_ba C0 (d_X9_readNumber_34) hgz (s_bi C0 (d_X9_readNumber_35) hgz (s_clt C0 (d_X9_readNumber_37) (by decide) hgz hgz (fun _ _ _ h => h) (s_aln C0 (d_X9_readNumber_40) hgz (s_gr C0 (j := 0) (c0 := 9) rfl gX9 (by decide) rfl rfl wg39 (d_X9_readNumber_41) hgz (s_aln C0 (d_X9_readNumber_44) hgz (s_gi C0 (j := 3) (c0 := 9) rfl gX9 (by decide) rfl (by decide) wg43 (d_X9_readNumber_45) hgz (s_ba C0 (d_X9_readNumber_48) hgz (s_bi C0 (d_X9_readNumber_49) hgz (s_cgt C0 (d_X9_readNumber_51) (by decide) hgz hgz (fun _ _ _ h => h) (s_iln C0 (d_X9_readNumber_54) hgz (s_bi C0 (d_X9_readNumber_55) hgz (s_mul C0 (d_X9_readNumber_57) hgz (s_aln C0 (d_X9_readNumber_58) hgz (s_gr C0 (j := 0) (c0 := 9) rfl gX9 (by decide) rfl rfl wg39 (d_X9_readNumber_59) hgz (s_aln C0 (d_X9_readNumber_62) hgz (s_gi C0 (j := 3) (c0 := 9) rfl gX9 (by decide) rfl (by decide) wg43 (d_X9_readNumber_63) hgz (s_ba C0 (d_X9_readNumber_66) hgz (s_add C0 (d_X9_readNumber_67) hgz (s_bi C0 (d_X9_readNumber_68) hgz (s_sub C0 (d_X9_readNumber_70) hgz (s_ldc C0 (n := 1000000) wg729 (d_X9_readNumber_71) hgz (s_callS C0 hE (c_J9_min_7cf53 l) wg636 wg634 wg635 wg17 ⟨by decide, by decide⟩ (by decide +kernel) ⟨by decide, by decide⟩ ⟨by decide, by decide⟩ (d_X9_readNumber_73) (fun x hx => (hno x hx).elim) ⟨by decide, by decide⟩ ⟨by decide, by decide⟩ (s_isn C0 (d_X9_readNumber_76) hgz (s_aln C0 (d_X9_readNumber_77) hgz (s_dup C0 (d_X9_readNumber_78) hgz (s_gi C0 (j := 3) (c0 := 9) rfl gX9 (by decide) rfl (by decide) wg43 (d_X9_readNumber_79) hgz (s_ic C0 (d_X9_readNumber_82) hgz (s_add C0 (d_X9_readNumber_83) hgz (s_pi C0 (j := 3) (c0 := 9) rfl gX9 tyX9_ok nmX9 (by decide) rfl (by decide) rfl rfl wg43 (d_X9_readNumber_84) hgz (s_goto C0 (tgt := 15) (d_X9_readNumber_87) (by decide) hgz (fun _ _ _ h => h)))) (okn rfl))))))) (okn rfl))) (okn rfl) rfl)))))))) (okn rfl) rfl))) (okn rfl) rfl))))))) (okn rfl) rfl)))))))))),
  s_aln C0 (d_X9_readNumber_90) hgz (s_gi C0 (j := 3) (c0 := 9) rfl gX9 (by decide) rfl (by decide) wg43 (d_X9_readNumber_91) hgz (s_aln C0 (d_X9_readNumber_94) hgz (s_gi C0 (j := 4) (c0 := 9) rfl gX9 (by decide) rfl (by decide) wg44 (d_X9_readNumber_95) hgz (s_cne C0 (d_X9_readNumber_98) (by decide) hgz hgz (fun _ _ _ h => h) (s_aln C0 (d_X9_readNumber_101) hgz (s_ic C0 (d_X9_readNumber_102) hgz (s_callV C0 hE (c_X9_refuse l) wg720 wg730 wg719 ws23 wg2 ⟨by decide, by decide⟩ (by decide +kernel) (c0 := 9) rfl ⟨by decide, by decide⟩ ⟨by decide, by decide⟩ (d_X9_readNumber_103) (fun x hx => (hno x hx).elim) ⟨by decide, by decide⟩ ⟨by decide, by decide⟩ (s_goto C0 (tgt := 124) (d_X9_readNumber_106) (by decide) hgz (fun _ _ _ h => h))) (okn rfl))))))),
  s_iln C0 (d_X9_readNumber_109) hgz (s_iln C0 (d_X9_readNumber_110) hgz (s_clt C0 (d_X9_readNumber_111) (by decide) hgz hgz (fun _ _ _ h => h) (s_iln C0 (d_X9_readNumber_114) hgz (s_iln C0 (d_X9_readNumber_115) hgz (s_cle C0 (d_X9_readNumber_116) (by decide) hgz hgz (fun _ _ _ h => h) (fun _ _ _ h => h)))))),
  s_aln C0 (d_X9_readNumber_119) hgz (s_ic C0 (d_X9_readNumber_120) hgz (s_callV C0 hE (c_X9_refuse l) wg720 wg730 wg719 ws23 wg2 ⟨by decide, by decide⟩ (by decide +kernel) (c0 := 9) rfl ⟨by decide, by decide⟩ ⟨by decide, by decide⟩ (d_X9_readNumber_121) (fun x hx => (hno x hx).elim) ⟨by decide, by decide⟩ ⟨by decide, by decide⟩ (fun _ _ _ h => h)) (okn rfl)),
  s_iln C0 (d_X9_readNumber_124) hgz (s_ri C0 hr (d_X9_readNumber_125) ⟨by decide, by decide⟩)⟩
theorem c_X9_readNumber (l : Launch) : Ctr l yX9_readNumber cX9_readNumber 4 (some .int) 12 241 0 (fun sx => (nf G_X9_readNumber)) := ctr_of (by decide) gz gz ⟨rfl, rfl⟩ (fun p e s m args below meth c D ca ad sx sy A Q as M C0 hE hr hno hF => P_X9_readNumber (L_X9_readNumber C0 hE hr hno) hF)
theorem d_X6_allPersons_0 : decode cX6_allPersons 0 = .ok (.iconst 1, 1) := by decide +kernel
theorem d_X6_allPersons_1 : decode cX6_allPersons 1 = .ok (.aload_n 0, 1) := by decide +kernel
theorem d_X6_allPersons_2 : decode cX6_allPersons 2 = .ok (.getfield 42, 3) := by decide +kernel
theorem d_X6_allPersons_5 : decode cX6_allPersons 5 = .ok (.ishl, 1) := by decide +kernel
theorem d_X6_allPersons_6 : decode cX6_allPersons 6 = .ok (.iconst 1, 1) := by decide +kernel
theorem d_X6_allPersons_7 : decode cX6_allPersons 7 = .ok (.isub, 1) := by decide +kernel
theorem d_X6_allPersons_8 : decode cX6_allPersons 8 = .ok (.ireturn, 1) := by decide +kernel
set_option maxRecDepth 100000 in
theorem L_X6_allPersons {p : Program} {l : Launch} {e : Env} {s : State} {m : MethodId} {args : Array Value} {below : List Frame} {meth : Method} {c : Code} {D : va_G} {ca : Nat → ClassId} {ad sx sy : Nat → Nat} {A : Nat → Prop} {Q : QT} (C0 : CX p s m args meth c cX6_allPersons 1 yX6_allPersons.cls D ca ad A) (hE : EX sx sy A s s.heap) (hr : meth.sig.returnType = (some .int)) (hno : ∀ x ∈ c.exceptionTable.toList, False) : R_X6_allPersons (JW p l e { frames := 10, cells := 0, slots := 6 * 0, locals := 200 } s m args below meth c 1 D ca ad A (vx_MQ below (Qn D ca ad A Q) (Qx D ca ad A Q) args s 0 (6 * 0) A) gz gz true) Q := s_ic C0 (d_X6_allPersons_0) hgz (s_aln C0 (d_X6_allPersons_1) hgz (s_gi C0 (j := 0) (c0 := 6) rfl gX6 (by decide) rfl (by decide) wg71 (d_X6_allPersons_2) hgz (s_shl C0 (d_X6_allPersons_5) hgz (s_ic C0 (d_X6_allPersons_6) hgz (s_sub C0 (d_X6_allPersons_7) hgz (s_ri C0 hr (d_X6_allPersons_8) ⟨by decide, by decide⟩)) (okn rfl))))) (okn rfl)
theorem c_X6_allPersons (l : Launch) : Ctr l yX6_allPersons cX6_allPersons 1 (some .int) 10 200 0 (fun sx => (nf G_X6_allPersons)) := ctr_of (by decide) gz gz ⟨rfl, rfl⟩ (fun p e s m args below meth c D ca ad sx sy A Q as M C0 hE hr hno hF => P_X6_allPersons (L_X6_allPersons C0 hE hr hno) hF)
theorem wn717 : Cond.methodLinkNest "WeighedHall$Plan" 107 ⟨"WeighedHall$Tape", "refuse", "(I)V"⟩ "WeighedHall" ∈ NT := nt_mem 717 (by decide +kernel) rfl
theorem wn731 : Cond.methodLinkNest "WeighedHall$Plan" 115 ⟨"WeighedHall$Tape", "isSound", "()Z"⟩ "WeighedHall" ∈ NT := nt_mem 731 (by decide +kernel) rfl
theorem wg728 : Cond.code ⟨"WeighedHall$Tape", "readNumber", "(II)I"⟩ prog_11_method_10_code 4 (Option.some .int) ∈ GT := gt_mem 848 (by decide +kernel) rfl
theorem wn725 : Cond.methodLinkNest "WeighedHall$Plan" 111 ⟨"WeighedHall$Tape", "readNumber", "(II)I"⟩ "WeighedHall" ∈ NT := nt_mem 725 (by decide +kernel) rfl
theorem wg727 : Cond.instanceMethod ⟨"WeighedHall$Tape", "readNumber", "(II)I"⟩ ∈ GT := gt_mem 847 (by decide +kernel) rfl
theorem ws25 : Cond.selects "WeighedHall$Tape" ⟨"WeighedHall$Tape", "readNumber", "(II)I"⟩ ⟨"WeighedHall$Tape", "readNumber", "(II)I"⟩ ∈ GT := gt_mem 25 (by decide +kernel) rfl
theorem wg751 : Cond.code ⟨"WeighedHall$Plan", "allPersons", "()I"⟩ prog_8_method_10_code 1 (Option.some .int) ∈ GT := gt_mem 871 (by decide +kernel) rfl
theorem wg748 : Cond.methodLink "WeighedHall$Plan" 118 ⟨"WeighedHall$Plan", "allPersons", "()I"⟩ ∈ GT := gt_mem 868 (by decide +kernel) rfl
theorem wg750 : Cond.instanceMethod ⟨"WeighedHall$Plan", "allPersons", "()I"⟩ ∈ GT := gt_mem 870 (by decide +kernel) rfl
theorem ws29 : Cond.selects "WeighedHall$Plan" ⟨"WeighedHall$Plan", "allPersons", "()I"⟩ ⟨"WeighedHall$Plan", "allPersons", "()I"⟩ ∈ GT := gt_mem 29 (by decide +kernel) rfl
theorem wg128 : Cond.fieldLink "WeighedHall$Plan" 39 "WeighedHall$Plan" "con" "[I" ∈ GT := gt_mem 248 (by decide +kernel) rfl
theorem wg124 : Cond.fieldLink "WeighedHall$Plan" 36 "WeighedHall$Plan" "pro" "[I" ∈ GT := gt_mem 244 (by decide +kernel) rfl
theorem wg119 : Cond.fieldLink "WeighedHall$Plan" 33 "WeighedHall$Plan" "minute" "[I" ∈ GT := gt_mem 239 (by decide +kernel) rfl
theorem d_X6_readMotion_0 : decode cX6_readMotion 0 = .ok (.aload_n 1, 1) := by decide +kernel
theorem d_X6_readMotion_1 : decode cX6_readMotion 1 = .ok (.iconst 0, 1) := by decide +kernel
theorem d_X6_readMotion_2 : decode cX6_readMotion 2 = .ok (.bipush 119, 2) := by decide +kernel
theorem d_X6_readMotion_4 : decode cX6_readMotion 4 = .ok (.invokevirtual 111, 3) := by decide +kernel
theorem d_X6_readMotion_7 : decode cX6_readMotion 7 = .ok (.istore_n 2, 1) := by decide +kernel
theorem d_X6_readMotion_8 : decode cX6_readMotion 8 = .ok (.aload_n 1, 1) := by decide +kernel
theorem d_X6_readMotion_9 : decode cX6_readMotion 9 = .ok (.iconst 0, 1) := by decide +kernel
theorem d_X6_readMotion_10 : decode cX6_readMotion 10 = .ok (.aload_n 0, 1) := by decide +kernel
theorem d_X6_readMotion_11 : decode cX6_readMotion 11 = .ok (.invokevirtual 118, 3) := by decide +kernel
theorem d_X6_readMotion_14 : decode cX6_readMotion 14 = .ok (.invokevirtual 111, 3) := by decide +kernel
theorem d_X6_readMotion_17 : decode cX6_readMotion 17 = .ok (.istore_n 3, 1) := by decide +kernel
theorem d_X6_readMotion_18 : decode cX6_readMotion 18 = .ok (.aload_n 1, 1) := by decide +kernel
theorem d_X6_readMotion_19 : decode cX6_readMotion 19 = .ok (.iconst 0, 1) := by decide +kernel
theorem d_X6_readMotion_20 : decode cX6_readMotion 20 = .ok (.aload_n 0, 1) := by decide +kernel
theorem d_X6_readMotion_21 : decode cX6_readMotion 21 = .ok (.invokevirtual 118, 3) := by decide +kernel
theorem d_X6_readMotion_24 : decode cX6_readMotion 24 = .ok (.invokevirtual 111, 3) := by decide +kernel
theorem d_X6_readMotion_27 : decode cX6_readMotion 27 = .ok (.istore 4, 2) := by decide +kernel
theorem d_X6_readMotion_29 : decode cX6_readMotion 29 = .ok (.aload_n 1, 1) := by decide +kernel
theorem d_X6_readMotion_30 : decode cX6_readMotion 30 = .ok (.invokevirtual 115, 3) := by decide +kernel
theorem d_X6_readMotion_33 : decode cX6_readMotion 33 = .ok (.ifCond .eq 15, 3) := by decide +kernel
theorem d_X6_readMotion_36 : decode cX6_readMotion 36 = .ok (.iload_n 3, 1) := by decide +kernel
theorem d_X6_readMotion_37 : decode cX6_readMotion 37 = .ok (.iload 4, 2) := by decide +kernel
theorem d_X6_readMotion_39 : decode cX6_readMotion 39 = .ok (.iand, 1) := by decide +kernel
theorem d_X6_readMotion_40 : decode cX6_readMotion 40 = .ok (.ifCond .eq 8, 3) := by decide +kernel
theorem d_X6_readMotion_43 : decode cX6_readMotion 43 = .ok (.aload_n 1, 1) := by decide +kernel
theorem d_X6_readMotion_44 : decode cX6_readMotion 44 = .ok (.iconst 2, 1) := by decide +kernel
theorem d_X6_readMotion_45 : decode cX6_readMotion 45 = .ok (.invokevirtual 107, 3) := by decide +kernel
theorem d_X6_readMotion_48 : decode cX6_readMotion 48 = .ok (.aload_n 1, 1) := by decide +kernel
theorem d_X6_readMotion_49 : decode cX6_readMotion 49 = .ok (.invokevirtual 115, 3) := by decide +kernel
theorem d_X6_readMotion_52 : decode cX6_readMotion 52 = .ok (.ifCond .eq 53, 3) := by decide +kernel
theorem d_X6_readMotion_55 : decode cX6_readMotion 55 = .ok (.aload_n 0, 1) := by decide +kernel
theorem d_X6_readMotion_56 : decode cX6_readMotion 56 = .ok (.getfield 52, 3) := by decide +kernel
theorem d_X6_readMotion_59 : decode cX6_readMotion 59 = .ok (.bipush 8, 2) := by decide +kernel
theorem d_X6_readMotion_61 : decode cX6_readMotion 61 = .ok (.if_icmp .ge 44, 3) := by decide +kernel
theorem d_X6_readMotion_64 : decode cX6_readMotion 64 = .ok (.aload_n 0, 1) := by decide +kernel
theorem d_X6_readMotion_65 : decode cX6_readMotion 65 = .ok (.getfield 33, 3) := by decide +kernel
theorem d_X6_readMotion_68 : decode cX6_readMotion 68 = .ok (.aload_n 0, 1) := by decide +kernel
theorem d_X6_readMotion_69 : decode cX6_readMotion 69 = .ok (.getfield 52, 3) := by decide +kernel
theorem d_X6_readMotion_72 : decode cX6_readMotion 72 = .ok (.iload_n 2, 1) := by decide +kernel
theorem d_X6_readMotion_73 : decode cX6_readMotion 73 = .ok (.iastore, 1) := by decide +kernel
theorem d_X6_readMotion_74 : decode cX6_readMotion 74 = .ok (.aload_n 0, 1) := by decide +kernel
theorem d_X6_readMotion_75 : decode cX6_readMotion 75 = .ok (.getfield 36, 3) := by decide +kernel
theorem d_X6_readMotion_78 : decode cX6_readMotion 78 = .ok (.aload_n 0, 1) := by decide +kernel
theorem d_X6_readMotion_79 : decode cX6_readMotion 79 = .ok (.getfield 52, 3) := by decide +kernel
theorem d_X6_readMotion_82 : decode cX6_readMotion 82 = .ok (.iload_n 3, 1) := by decide +kernel
theorem d_X6_readMotion_83 : decode cX6_readMotion 83 = .ok (.iastore, 1) := by decide +kernel
theorem d_X6_readMotion_84 : decode cX6_readMotion 84 = .ok (.aload_n 0, 1) := by decide +kernel
theorem d_X6_readMotion_85 : decode cX6_readMotion 85 = .ok (.getfield 39, 3) := by decide +kernel
theorem d_X6_readMotion_88 : decode cX6_readMotion 88 = .ok (.aload_n 0, 1) := by decide +kernel
theorem d_X6_readMotion_89 : decode cX6_readMotion 89 = .ok (.getfield 52, 3) := by decide +kernel
theorem d_X6_readMotion_92 : decode cX6_readMotion 92 = .ok (.iload 4, 2) := by decide +kernel
theorem d_X6_readMotion_94 : decode cX6_readMotion 94 = .ok (.iastore, 1) := by decide +kernel
theorem d_X6_readMotion_95 : decode cX6_readMotion 95 = .ok (.aload_n 0, 1) := by decide +kernel
theorem d_X6_readMotion_96 : decode cX6_readMotion 96 = .ok (.dup, 1) := by decide +kernel
theorem d_X6_readMotion_97 : decode cX6_readMotion 97 = .ok (.getfield 52, 3) := by decide +kernel
theorem d_X6_readMotion_100 : decode cX6_readMotion 100 = .ok (.iconst 1, 1) := by decide +kernel
theorem d_X6_readMotion_101 : decode cX6_readMotion 101 = .ok (.iadd, 1) := by decide +kernel
theorem d_X6_readMotion_102 : decode cX6_readMotion 102 = .ok (.putfield 52, 3) := by decide +kernel
theorem d_X6_readMotion_105 : decode cX6_readMotion 105 = .ok (.return_, 1) := by decide +kernel
set_option maxRecDepth 100000 in
theorem L_X6_readMotion {p : Program} {l : Launch} {e : Env} {s : State} {m : MethodId} {args : Array Value} {below : List Frame} {meth : Method} {c : Code} {D : va_G} {ca : Nat → ClassId} {ad sx sy : Nat → Nat} {A : Nat → Prop} {Q : QT} (C0 : CX p s m args meth c cX6_readMotion 5 yX6_readMotion.cls D ca ad A) (hE : EX sx sy A s s.heap) (hr : meth.sig.returnType = none) (hno : ∀ x ∈ c.exceptionTable.toList, False) : R_X6_readMotion (JW p l e { frames := 13, cells := 0, slots := 6 * 0, locals := 264 } s m args below meth c 5 D ca ad A (vx_MQ below (Qn D ca ad A Q) (Qx D ca ad A Q) args s 0 (6 * 0) A) gz gz true) Q := ⟨s_aln C0 (d_X6_readMotion_0) hgz (s_ic C0 (d_X6_readMotion_1) hgz (s_bi C0 (d_X6_readMotion_2) hgz (s_callVN C0 hE (c_X9_readNumber l) wg728 wn725 wg727 ws25 wg2 ⟨by decide, by decide⟩ (by decide +kernel) (c0 := 9) rfl ⟨by decide, by decide⟩ ⟨by decide, by decide⟩ (d_X6_readMotion_4) (fun x hx => (hno x hx).elim) ⟨by decide, by decide⟩ ⟨by decide, by decide⟩ (s_isn C0 (d_X6_readMotion_7) hgz (s_aln C0 (d_X6_readMotion_8) hgz (s_ic C0 (d_X6_readMotion_9) hgz (s_aln C0 (d_X6_readMotion_10) hgz (s_callV C0 hE (c_X6_allPersons l) wg751 wg748 wg750 ws29 wg3 ⟨by decide, by decide⟩ (by decide +kernel) (c0 := 6) rfl ⟨by decide, by decide⟩ ⟨by decide, by decide⟩ (d_X6_readMotion_11) (fun x hx => (hno x hx).elim) ⟨by decide, by decide⟩ ⟨by decide, by decide⟩ (s_callVN C0 hE (c_X9_readNumber l) wg728 wn725 wg727 ws25 wg2 ⟨by decide, by decide⟩ (by decide +kernel) (c0 := 9) rfl ⟨by decide, by decide⟩ ⟨by decide, by decide⟩ (d_X6_readMotion_14) (fun x hx => (hno x hx).elim) ⟨by decide, by decide⟩ ⟨by decide, by decide⟩ (s_isn C0 (d_X6_readMotion_17) hgz (s_aln C0 (d_X6_readMotion_18) hgz (s_ic C0 (d_X6_readMotion_19) hgz (s_aln C0 (d_X6_readMotion_20) hgz (s_callV C0 hE (c_X6_allPersons l) wg751 wg748 wg750 ws29 wg3 ⟨by decide, by decide⟩ (by decide +kernel) (c0 := 6) rfl ⟨by decide, by decide⟩ ⟨by decide, by decide⟩ (d_X6_readMotion_21) (fun x hx => (hno x hx).elim) ⟨by decide, by decide⟩ ⟨by decide, by decide⟩ (s_callVN C0 hE (c_X9_readNumber l) wg728 wn725 wg727 ws25 wg2 ⟨by decide, by decide⟩ (by decide +kernel) (c0 := 9) rfl ⟨by decide, by decide⟩ ⟨by decide, by decide⟩ (d_X6_readMotion_24) (fun x hx => (hno x hx).elim) ⟨by decide, by decide⟩ ⟨by decide, by decide⟩ (s_is C0 (d_X6_readMotion_27) hgz (s_aln C0 (d_X6_readMotion_29) hgz (s_callVN C0 hE (c_X9_isSound l) wg648 wn731 wg647 ws18 wg2 ⟨by decide, by decide⟩ (by decide +kernel) (c0 := 9) rfl ⟨by decide, by decide⟩ ⟨by decide, by decide⟩ (d_X6_readMotion_30) (fun x hx => (hno x hx).elim) ⟨by decide, by decide⟩ ⟨by decide, by decide⟩ (s_zeq C0 (d_X6_readMotion_33) (by decide) hgz hgz (fun _ _ _ h => h) (s_iln C0 (d_X6_readMotion_36) hgz (s_il C0 (d_X6_readMotion_37) hgz (s_and C0 (d_X6_readMotion_39) hgz (s_zeq C0 (d_X6_readMotion_40) (by decide) hgz hgz (fun _ _ _ h => h) (s_aln C0 (d_X6_readMotion_43) hgz (s_ic C0 (d_X6_readMotion_44) hgz (s_callVN C0 hE (c_X9_refuse l) wg720 wn717 wg719 ws23 wg2 ⟨by decide, by decide⟩ (by decide +kernel) (c0 := 9) rfl ⟨by decide, by decide⟩ ⟨by decide, by decide⟩ (d_X6_readMotion_45) (fun x hx => (hno x hx).elim) ⟨by decide, by decide⟩ ⟨by decide, by decide⟩ (fun _ _ _ h => h)) (okn rfl)))))))))))))) (okn rfl))))))) (okn rfl))))) (okn rfl) rfl) (okn rfl)),
  s_aln C0 (d_X6_readMotion_48) hgz (s_callVN C0 hE (c_X9_isSound l) wg648 wn731 wg647 ws18 wg2 ⟨by decide, by decide⟩ (by decide +kernel) (c0 := 9) rfl ⟨by decide, by decide⟩ ⟨by decide, by decide⟩ (d_X6_readMotion_49) (fun x hx => (hno x hx).elim) ⟨by decide, by decide⟩ ⟨by decide, by decide⟩ (s_zeq C0 (d_X6_readMotion_52) (by decide) hgz hgz (fun _ _ _ h => h) (s_aln C0 (d_X6_readMotion_55) hgz (s_gi C0 (j := 10) (c0 := 6) rfl gX6 (by decide) rfl (by decide) wg115 (d_X6_readMotion_56) hgz (s_bi C0 (d_X6_readMotion_59) hgz (s_cge C0 (d_X6_readMotion_61) (by decide) hgz hgz (fun _ _ _ h => h) (s_aln C0 (d_X6_readMotion_64) hgz (s_gr C0 (j := 11) (c0 := 6) rfl gX6 (by decide) rfl rfl wg119 (d_X6_readMotion_65) hgz (s_aln C0 (d_X6_readMotion_68) hgz (s_gi C0 (j := 10) (c0 := 6) rfl gX6 (by decide) rfl (by decide) wg115 (d_X6_readMotion_69) hgz (s_iln C0 (d_X6_readMotion_72) hgz (s_iax C0 (d_X6_readMotion_73) hgz (s_aln C0 (d_X6_readMotion_74) hgz (s_gr C0 (j := 12) (c0 := 6) rfl gX6 (by decide) rfl rfl wg124 (d_X6_readMotion_75) hgz (s_aln C0 (d_X6_readMotion_78) hgz (s_gi C0 (j := 10) (c0 := 6) rfl gX6 (by decide) rfl (by decide) wg115 (d_X6_readMotion_79) hgz (s_iln C0 (d_X6_readMotion_82) hgz (s_iax C0 (d_X6_readMotion_83) hgz (s_aln C0 (d_X6_readMotion_84) hgz (s_gr C0 (j := 13) (c0 := 6) rfl gX6 (by decide) rfl rfl wg128 (d_X6_readMotion_85) hgz (s_aln C0 (d_X6_readMotion_88) hgz (s_gi C0 (j := 10) (c0 := 6) rfl gX6 (by decide) rfl (by decide) wg115 (d_X6_readMotion_89) hgz (s_il C0 (d_X6_readMotion_92) hgz (s_iax C0 (d_X6_readMotion_94) hgz (s_aln C0 (d_X6_readMotion_95) hgz (s_dup C0 (d_X6_readMotion_96) hgz (s_gi C0 (j := 10) (c0 := 6) rfl gX6 (by decide) rfl (by decide) wg115 (d_X6_readMotion_97) hgz (s_ic C0 (d_X6_readMotion_100) hgz (s_add C0 (d_X6_readMotion_101) hgz (s_pi C0 (j := 10) (c0 := 6) rfl gX6 tyX6_ok nmX6 (by decide) rfl (by decide) rfl rfl wg115 (d_X6_readMotion_102) hgz (fun _ _ _ h => h))) (okn rfl)))))))))))))))))))))))) (okn rfl) rfl))))),
  s_rv C0 hr (d_X6_readMotion_105) ⟨by decide, by decide⟩⟩
theorem c_X6_readMotion (l : Launch) : Ctr l yX6_readMotion cX6_readMotion 5 none 13 264 0 (fun sx => (nf G_X6_readMotion)) := ctr_of (by decide) gz gz ⟨rfl, rfl⟩ (fun p e s m args below meth c D ca ad sx sy A Q as M C0 hE hr hno hF => P_X6_readMotion (L_X6_readMotion C0 hE hr hno) hF)
theorem wg131 : Cond.fieldLink "WeighedHall$Plan" 55 "WeighedHall$Plan" "law" "I" ∈ GT := gt_mem 251 (by decide +kernel) rfl
theorem d_X6_readLaw_0 : decode cX6_readLaw 0 = .ok (.aload_n 1, 1) := by decide +kernel
theorem d_X6_readLaw_1 : decode cX6_readLaw 1 = .ok (.iconst 0, 1) := by decide +kernel
theorem d_X6_readLaw_2 : decode cX6_readLaw 2 = .ok (.iconst 2, 1) := by decide +kernel
theorem d_X6_readLaw_3 : decode cX6_readLaw 3 = .ok (.invokevirtual 111, 3) := by decide +kernel
theorem d_X6_readLaw_6 : decode cX6_readLaw 6 = .ok (.istore_n 2, 1) := by decide +kernel
theorem d_X6_readLaw_7 : decode cX6_readLaw 7 = .ok (.aload_n 1, 1) := by decide +kernel
theorem d_X6_readLaw_8 : decode cX6_readLaw 8 = .ok (.invokevirtual 115, 3) := by decide +kernel
theorem d_X6_readLaw_11 : decode cX6_readLaw 11 = .ok (.ifCond .eq 8, 3) := by decide +kernel
theorem d_X6_readLaw_14 : decode cX6_readLaw 14 = .ok (.aload_n 0, 1) := by decide +kernel
theorem d_X6_readLaw_15 : decode cX6_readLaw 15 = .ok (.iload_n 2, 1) := by decide +kernel
theorem d_X6_readLaw_16 : decode cX6_readLaw 16 = .ok (.putfield 55, 3) := by decide +kernel
theorem d_X6_readLaw_19 : decode cX6_readLaw 19 = .ok (.return_, 1) := by decide +kernel
set_option maxRecDepth 100000 in
theorem L_X6_readLaw {p : Program} {l : Launch} {e : Env} {s : State} {m : MethodId} {args : Array Value} {below : List Frame} {meth : Method} {c : Code} {D : va_G} {ca : Nat → ClassId} {ad sx sy : Nat → Nat} {A : Nat → Prop} {Q : QT} (C0 : CX p s m args meth c cX6_readLaw 3 yX6_readLaw.cls D ca ad A) (hE : EX sx sy A s s.heap) (hr : meth.sig.returnType = none) (hno : ∀ x ∈ c.exceptionTable.toList, False) : R_X6_readLaw (JW p l e { frames := 13, cells := 0, slots := 6 * 0, locals := 264 } s m args below meth c 3 D ca ad A (vx_MQ below (Qn D ca ad A Q) (Qx D ca ad A Q) args s 0 (6 * 0) A) gz gz true) Q := ⟨s_aln C0 (d_X6_readLaw_0) hgz (s_ic C0 (d_X6_readLaw_1) hgz (s_ic C0 (d_X6_readLaw_2) hgz (s_callVN C0 hE (c_X9_readNumber l) wg728 wn725 wg727 ws25 wg2 ⟨by decide, by decide⟩ (by decide +kernel) (c0 := 9) rfl ⟨by decide, by decide⟩ ⟨by decide, by decide⟩ (d_X6_readLaw_3) (fun x hx => (hno x hx).elim) ⟨by decide, by decide⟩ ⟨by decide, by decide⟩ (s_isn C0 (d_X6_readLaw_6) hgz (s_aln C0 (d_X6_readLaw_7) hgz (s_callVN C0 hE (c_X9_isSound l) wg648 wn731 wg647 ws18 wg2 ⟨by decide, by decide⟩ (by decide +kernel) (c0 := 9) rfl ⟨by decide, by decide⟩ ⟨by decide, by decide⟩ (d_X6_readLaw_8) (fun x hx => (hno x hx).elim) ⟨by decide, by decide⟩ ⟨by decide, by decide⟩ (s_zeq C0 (d_X6_readLaw_11) (by decide) hgz hgz (fun _ _ _ h => h) (s_aln C0 (d_X6_readLaw_14) hgz (s_iln C0 (d_X6_readLaw_15) hgz (s_pi C0 (j := 14) (c0 := 6) rfl gX6 tyX6_ok nmX6 (by decide) rfl (by decide) rfl rfl wg131 (d_X6_readLaw_16) hgz (fun _ _ _ h => h))))))))) (okn rfl)) (okn rfl)),
  s_rv C0 hr (d_X6_readLaw_19) ⟨by decide, by decide⟩⟩
theorem c_X6_readLaw (l : Launch) : Ctr l yX6_readLaw cX6_readLaw 3 none 13 264 0 (fun sx => (nf G_X6_readLaw)) := ctr_of (by decide) gz gz ⟨rfl, rfl⟩ (fun p e s m args below meth c D ca ad sx sy A Q as M C0 hE hr hno hF => P_X6_readLaw (L_X6_readLaw C0 hE hr hno) hF)
theorem d_X6_readDoor_0 : decode cX6_readDoor 0 = .ok (.aload_n 1, 1) := by decide +kernel
theorem d_X6_readDoor_1 : decode cX6_readDoor 1 = .ok (.iconst 1, 1) := by decide +kernel
theorem d_X6_readDoor_2 : decode cX6_readDoor 2 = .ok (.bipush 99, 2) := by decide +kernel
theorem d_X6_readDoor_4 : decode cX6_readDoor 4 = .ok (.invokevirtual 111, 3) := by decide +kernel
theorem d_X6_readDoor_7 : decode cX6_readDoor 7 = .ok (.istore_n 2, 1) := by decide +kernel
theorem d_X6_readDoor_8 : decode cX6_readDoor 8 = .ok (.aload_n 1, 1) := by decide +kernel
theorem d_X6_readDoor_9 : decode cX6_readDoor 9 = .ok (.invokevirtual 115, 3) := by decide +kernel
theorem d_X6_readDoor_12 : decode cX6_readDoor 12 = .ok (.ifCond .eq 31, 3) := by decide +kernel
theorem d_X6_readDoor_15 : decode cX6_readDoor 15 = .ok (.aload_n 0, 1) := by decide +kernel
theorem d_X6_readDoor_16 : decode cX6_readDoor 16 = .ok (.getfield 49, 3) := by decide +kernel
theorem d_X6_readDoor_19 : decode cX6_readDoor 19 = .ok (.iconst 3, 1) := by decide +kernel
theorem d_X6_readDoor_20 : decode cX6_readDoor 20 = .ok (.if_icmp .ge 23, 3) := by decide +kernel
theorem d_X6_readDoor_23 : decode cX6_readDoor 23 = .ok (.aload_n 0, 1) := by decide +kernel
theorem d_X6_readDoor_24 : decode cX6_readDoor 24 = .ok (.getfield 30, 3) := by decide +kernel
theorem d_X6_readDoor_27 : decode cX6_readDoor 27 = .ok (.aload_n 0, 1) := by decide +kernel
theorem d_X6_readDoor_28 : decode cX6_readDoor 28 = .ok (.getfield 49, 3) := by decide +kernel
theorem d_X6_readDoor_31 : decode cX6_readDoor 31 = .ok (.iload_n 2, 1) := by decide +kernel
theorem d_X6_readDoor_32 : decode cX6_readDoor 32 = .ok (.iastore, 1) := by decide +kernel
theorem d_X6_readDoor_33 : decode cX6_readDoor 33 = .ok (.aload_n 0, 1) := by decide +kernel
theorem d_X6_readDoor_34 : decode cX6_readDoor 34 = .ok (.dup, 1) := by decide +kernel
theorem d_X6_readDoor_35 : decode cX6_readDoor 35 = .ok (.getfield 49, 3) := by decide +kernel
theorem d_X6_readDoor_38 : decode cX6_readDoor 38 = .ok (.iconst 1, 1) := by decide +kernel
theorem d_X6_readDoor_39 : decode cX6_readDoor 39 = .ok (.iadd, 1) := by decide +kernel
theorem d_X6_readDoor_40 : decode cX6_readDoor 40 = .ok (.putfield 49, 3) := by decide +kernel
theorem d_X6_readDoor_43 : decode cX6_readDoor 43 = .ok (.return_, 1) := by decide +kernel
set_option maxRecDepth 100000 in
theorem L_X6_readDoor {p : Program} {l : Launch} {e : Env} {s : State} {m : MethodId} {args : Array Value} {below : List Frame} {meth : Method} {c : Code} {D : va_G} {ca : Nat → ClassId} {ad sx sy : Nat → Nat} {A : Nat → Prop} {Q : QT} (C0 : CX p s m args meth c cX6_readDoor 3 yX6_readDoor.cls D ca ad A) (hE : EX sx sy A s s.heap) (hr : meth.sig.returnType = none) (hno : ∀ x ∈ c.exceptionTable.toList, False) : R_X6_readDoor (JW p l e { frames := 13, cells := 0, slots := 6 * 0, locals := 264 } s m args below meth c 3 D ca ad A (vx_MQ below (Qn D ca ad A Q) (Qx D ca ad A Q) args s 0 (6 * 0) A) gz gz true) Q := ⟨s_aln C0 (d_X6_readDoor_0) hgz (s_ic C0 (d_X6_readDoor_1) hgz (s_bi C0 (d_X6_readDoor_2) hgz (s_callVN C0 hE (c_X9_readNumber l) wg728 wn725 wg727 ws25 wg2 ⟨by decide, by decide⟩ (by decide +kernel) (c0 := 9) rfl ⟨by decide, by decide⟩ ⟨by decide, by decide⟩ (d_X6_readDoor_4) (fun x hx => (hno x hx).elim) ⟨by decide, by decide⟩ ⟨by decide, by decide⟩ (s_isn C0 (d_X6_readDoor_7) hgz (s_aln C0 (d_X6_readDoor_8) hgz (s_callVN C0 hE (c_X9_isSound l) wg648 wn731 wg647 ws18 wg2 ⟨by decide, by decide⟩ (by decide +kernel) (c0 := 9) rfl ⟨by decide, by decide⟩ ⟨by decide, by decide⟩ (d_X6_readDoor_9) (fun x hx => (hno x hx).elim) ⟨by decide, by decide⟩ ⟨by decide, by decide⟩ (s_zeq C0 (d_X6_readDoor_12) (by decide) hgz hgz (fun _ _ _ h => h) (s_aln C0 (d_X6_readDoor_15) hgz (s_gi C0 (j := 8) (c0 := 6) rfl gX6 (by decide) rfl (by decide) wg112 (d_X6_readDoor_16) hgz (s_ic C0 (d_X6_readDoor_19) hgz (s_cge C0 (d_X6_readDoor_20) (by decide) hgz hgz (fun _ _ _ h => h) (s_aln C0 (d_X6_readDoor_23) hgz (s_gr C0 (j := 9) (c0 := 6) rfl gX6 (by decide) rfl rfl wg114 (d_X6_readDoor_24) hgz (s_aln C0 (d_X6_readDoor_27) hgz (s_gi C0 (j := 8) (c0 := 6) rfl gX6 (by decide) rfl (by decide) wg112 (d_X6_readDoor_28) hgz (s_iln C0 (d_X6_readDoor_31) hgz (s_iax C0 (d_X6_readDoor_32) hgz (s_aln C0 (d_X6_readDoor_33) hgz (s_dup C0 (d_X6_readDoor_34) hgz (s_gi C0 (j := 8) (c0 := 6) rfl gX6 (by decide) rfl (by decide) wg112 (d_X6_readDoor_35) hgz (s_ic C0 (d_X6_readDoor_38) hgz (s_add C0 (d_X6_readDoor_39) hgz (s_pi C0 (j := 8) (c0 := 6) rfl gX6 tyX6_ok nmX6 (by decide) rfl (by decide) rfl rfl wg112 (d_X6_readDoor_40) hgz (fun _ _ _ h => h))) (okn rfl)))))))))))) (okn rfl))))))))) (okn rfl) rfl) (okn rfl)),
  s_rv C0 hr (d_X6_readDoor_43) ⟨by decide, by decide⟩⟩
theorem c_X6_readDoor (l : Launch) : Ctr l yX6_readDoor cX6_readDoor 3 none 13 264 0 (fun sx => (nf G_X6_readDoor)) := ctr_of (by decide) gz gz ⟨rfl, rfl⟩ (fun p e s m args below meth c D ca ad sx sy A Q as M C0 hE hr hno hF => P_X6_readDoor (L_X6_readDoor C0 hE hr hno) hF)
theorem wg92 : Cond.fieldLink "WeighedHall$Plan" 18 "WeighedHall$Plan" "owner" "[I" ∈ GT := gt_mem 212 (by decide +kernel) rfl
theorem d_X6_readThing_0 : decode cX6_readThing 0 = .ok (.aload_n 1, 1) := by decide +kernel
theorem d_X6_readThing_1 : decode cX6_readThing 1 = .ok (.iconst 0, 1) := by decide +kernel
theorem d_X6_readThing_2 : decode cX6_readThing 2 = .ok (.aload_n 0, 1) := by decide +kernel
theorem d_X6_readThing_3 : decode cX6_readThing 3 = .ok (.getfield 42, 3) := by decide +kernel
theorem d_X6_readThing_6 : decode cX6_readThing 6 = .ok (.iconst 1, 1) := by decide +kernel
theorem d_X6_readThing_7 : decode cX6_readThing 7 = .ok (.isub, 1) := by decide +kernel
theorem d_X6_readThing_8 : decode cX6_readThing 8 = .ok (.invokevirtual 111, 3) := by decide +kernel
theorem d_X6_readThing_11 : decode cX6_readThing 11 = .ok (.istore_n 3, 1) := by decide +kernel
theorem d_X6_readThing_12 : decode cX6_readThing 12 = .ok (.aload_n 1, 1) := by decide +kernel
theorem d_X6_readThing_13 : decode cX6_readThing 13 = .ok (.iconst 1, 1) := by decide +kernel
theorem d_X6_readThing_14 : decode cX6_readThing 14 = .ok (.bipush 99, 2) := by decide +kernel
theorem d_X6_readThing_16 : decode cX6_readThing 16 = .ok (.invokevirtual 111, 3) := by decide +kernel
theorem d_X6_readThing_19 : decode cX6_readThing 19 = .ok (.istore 4, 2) := by decide +kernel
theorem d_X6_readThing_21 : decode cX6_readThing 21 = .ok (.iload_n 2, 1) := by decide +kernel
theorem d_X6_readThing_22 : decode cX6_readThing 22 = .ok (.ifCond .eq 17, 3) := by decide +kernel
theorem d_X6_readThing_25 : decode cX6_readThing 25 = .ok (.aload_n 1, 1) := by decide +kernel
theorem d_X6_readThing_26 : decode cX6_readThing 26 = .ok (.iconst 0, 1) := by decide +kernel
theorem d_X6_readThing_27 : decode cX6_readThing 27 = .ok (.aload_n 0, 1) := by decide +kernel
theorem d_X6_readThing_28 : decode cX6_readThing 28 = .ok (.getfield 49, 3) := by decide +kernel
theorem d_X6_readThing_31 : decode cX6_readThing 31 = .ok (.iconst 1, 1) := by decide +kernel
theorem d_X6_readThing_32 : decode cX6_readThing 32 = .ok (.isub, 1) := by decide +kernel
theorem d_X6_readThing_33 : decode cX6_readThing 33 = .ok (.invokevirtual 111, 3) := by decide +kernel
theorem d_X6_readThing_36 : decode cX6_readThing 36 = .ok (.goto 4, 3) := by decide +kernel
theorem d_X6_readThing_39 : decode cX6_readThing 39 = .ok (.iconst (-1), 1) := by decide +kernel
theorem d_X6_readThing_40 : decode cX6_readThing 40 = .ok (.istore 5, 2) := by decide +kernel
theorem d_X6_readThing_42 : decode cX6_readThing 42 = .ok (.iload_n 2, 1) := by decide +kernel
theorem d_X6_readThing_43 : decode cX6_readThing 43 = .ok (.ifCond .eq 13, 3) := by decide +kernel
theorem d_X6_readThing_46 : decode cX6_readThing 46 = .ok (.aload_n 1, 1) := by decide +kernel
theorem d_X6_readThing_47 : decode cX6_readThing 47 = .ok (.iconst 0, 1) := by decide +kernel
theorem d_X6_readThing_48 : decode cX6_readThing 48 = .ok (.bipush 99, 2) := by decide +kernel
theorem d_X6_readThing_50 : decode cX6_readThing 50 = .ok (.invokevirtual 111, 3) := by decide +kernel
theorem d_X6_readThing_53 : decode cX6_readThing 53 = .ok (.goto 4, 3) := by decide +kernel
theorem d_X6_readThing_56 : decode cX6_readThing 56 = .ok (.iconst 0, 1) := by decide +kernel
theorem d_X6_readThing_57 : decode cX6_readThing 57 = .ok (.istore 6, 2) := by decide +kernel
theorem d_X6_readThing_59 : decode cX6_readThing 59 = .ok (.aload_n 1, 1) := by decide +kernel
theorem d_X6_readThing_60 : decode cX6_readThing 60 = .ok (.invokevirtual 115, 3) := by decide +kernel
theorem d_X6_readThing_63 : decode cX6_readThing 63 = .ok (.ifCond .eq 65, 3) := by decide +kernel
theorem d_X6_readThing_66 : decode cX6_readThing 66 = .ok (.aload_n 0, 1) := by decide +kernel
theorem d_X6_readThing_67 : decode cX6_readThing 67 = .ok (.getfield 46, 3) := by decide +kernel
theorem d_X6_readThing_70 : decode cX6_readThing 70 = .ok (.bipush 14, 2) := by decide +kernel
theorem d_X6_readThing_72 : decode cX6_readThing 72 = .ok (.if_icmp .ge 56, 3) := by decide +kernel
theorem d_X6_readThing_75 : decode cX6_readThing 75 = .ok (.aload_n 0, 1) := by decide +kernel
theorem d_X6_readThing_76 : decode cX6_readThing 76 = .ok (.getfield 18, 3) := by decide +kernel
theorem d_X6_readThing_79 : decode cX6_readThing 79 = .ok (.aload_n 0, 1) := by decide +kernel
theorem d_X6_readThing_80 : decode cX6_readThing 80 = .ok (.getfield 46, 3) := by decide +kernel
theorem d_X6_readThing_83 : decode cX6_readThing 83 = .ok (.iload_n 3, 1) := by decide +kernel
theorem d_X6_readThing_84 : decode cX6_readThing 84 = .ok (.iastore, 1) := by decide +kernel
theorem d_X6_readThing_85 : decode cX6_readThing 85 = .ok (.aload_n 0, 1) := by decide +kernel
theorem d_X6_readThing_86 : decode cX6_readThing 86 = .ok (.getfield 21, 3) := by decide +kernel
theorem d_X6_readThing_89 : decode cX6_readThing 89 = .ok (.aload_n 0, 1) := by decide +kernel
theorem d_X6_readThing_90 : decode cX6_readThing 90 = .ok (.getfield 46, 3) := by decide +kernel
theorem d_X6_readThing_93 : decode cX6_readThing 93 = .ok (.iload 4, 2) := by decide +kernel
theorem d_X6_readThing_95 : decode cX6_readThing 95 = .ok (.iastore, 1) := by decide +kernel
theorem d_X6_readThing_96 : decode cX6_readThing 96 = .ok (.aload_n 0, 1) := by decide +kernel
theorem d_X6_readThing_97 : decode cX6_readThing 97 = .ok (.getfield 24, 3) := by decide +kernel
theorem d_X6_readThing_100 : decode cX6_readThing 100 = .ok (.aload_n 0, 1) := by decide +kernel
theorem d_X6_readThing_101 : decode cX6_readThing 101 = .ok (.getfield 46, 3) := by decide +kernel
theorem d_X6_readThing_104 : decode cX6_readThing 104 = .ok (.iload 5, 2) := by decide +kernel
theorem d_X6_readThing_106 : decode cX6_readThing 106 = .ok (.iastore, 1) := by decide +kernel
theorem d_X6_readThing_107 : decode cX6_readThing 107 = .ok (.aload_n 0, 1) := by decide +kernel
theorem d_X6_readThing_108 : decode cX6_readThing 108 = .ok (.getfield 27, 3) := by decide +kernel
theorem d_X6_readThing_111 : decode cX6_readThing 111 = .ok (.aload_n 0, 1) := by decide +kernel
theorem d_X6_readThing_112 : decode cX6_readThing 112 = .ok (.getfield 46, 3) := by decide +kernel
theorem d_X6_readThing_115 : decode cX6_readThing 115 = .ok (.iload 6, 2) := by decide +kernel
theorem d_X6_readThing_117 : decode cX6_readThing 117 = .ok (.iastore, 1) := by decide +kernel
theorem d_X6_readThing_118 : decode cX6_readThing 118 = .ok (.aload_n 0, 1) := by decide +kernel
theorem d_X6_readThing_119 : decode cX6_readThing 119 = .ok (.dup, 1) := by decide +kernel
theorem d_X6_readThing_120 : decode cX6_readThing 120 = .ok (.getfield 46, 3) := by decide +kernel
theorem d_X6_readThing_123 : decode cX6_readThing 123 = .ok (.iconst 1, 1) := by decide +kernel
theorem d_X6_readThing_124 : decode cX6_readThing 124 = .ok (.iadd, 1) := by decide +kernel
theorem d_X6_readThing_125 : decode cX6_readThing 125 = .ok (.putfield 46, 3) := by decide +kernel
theorem d_X6_readThing_128 : decode cX6_readThing 128 = .ok (.return_, 1) := by decide +kernel
set_option maxRecDepth 100000 in
theorem L_X6_readThing {p : Program} {l : Launch} {e : Env} {s : State} {m : MethodId} {args : Array Value} {below : List Frame} {meth : Method} {c : Code} {D : va_G} {ca : Nat → ClassId} {ad sx sy : Nat → Nat} {A : Nat → Prop} {Q : QT} (C0 : CX p s m args meth c cX6_readThing 7 yX6_readThing.cls D ca ad A) (hE : EX sx sy A s s.heap) (hr : meth.sig.returnType = none) (hno : ∀ x ∈ c.exceptionTable.toList, False) : R_X6_readThing (JW p l e { frames := 13, cells := 0, slots := 6 * 0, locals := 264 } s m args below meth c 7 D ca ad A (vx_MQ below (Qn D ca ad A Q) (Qx D ca ad A Q) args s 0 (6 * 0) A) gz gz true) Q := ⟨s_aln C0 (d_X6_readThing_0) hgz (s_ic C0 (d_X6_readThing_1) hgz (s_aln C0 (d_X6_readThing_2) hgz (s_gi C0 (j := 0) (c0 := 6) rfl gX6 (by decide) rfl (by decide) wg71 (d_X6_readThing_3) hgz (s_ic C0 (d_X6_readThing_6) hgz (s_sub C0 (d_X6_readThing_7) hgz (s_callVN C0 hE (c_X9_readNumber l) wg728 wn725 wg727 ws25 wg2 ⟨by decide, by decide⟩ (by decide +kernel) (c0 := 9) rfl ⟨by decide, by decide⟩ ⟨by decide, by decide⟩ (d_X6_readThing_8) (fun x hx => (hno x hx).elim) ⟨by decide, by decide⟩ ⟨by decide, by decide⟩ (s_isn C0 (d_X6_readThing_11) hgz (s_aln C0 (d_X6_readThing_12) hgz (s_ic C0 (d_X6_readThing_13) hgz (s_bi C0 (d_X6_readThing_14) hgz (s_callVN C0 hE (c_X9_readNumber l) wg728 wn725 wg727 ws25 wg2 ⟨by decide, by decide⟩ (by decide +kernel) (c0 := 9) rfl ⟨by decide, by decide⟩ ⟨by decide, by decide⟩ (d_X6_readThing_16) (fun x hx => (hno x hx).elim) ⟨by decide, by decide⟩ ⟨by decide, by decide⟩ (s_is C0 (d_X6_readThing_19) hgz (s_iln C0 (d_X6_readThing_21) hgz (s_zeq C0 (d_X6_readThing_22) (by decide) hgz hgz (fun _ _ _ h => h) (s_aln C0 (d_X6_readThing_25) hgz (s_ic C0 (d_X6_readThing_26) hgz (s_aln C0 (d_X6_readThing_27) hgz (s_gi C0 (j := 8) (c0 := 6) rfl gX6 (by decide) rfl (by decide) wg112 (d_X6_readThing_28) hgz (s_ic C0 (d_X6_readThing_31) hgz (s_sub C0 (d_X6_readThing_32) hgz (s_callVN C0 hE (c_X9_readNumber l) wg728 wn725 wg727 ws25 wg2 ⟨by decide, by decide⟩ (by decide +kernel) (c0 := 9) rfl ⟨by decide, by decide⟩ ⟨by decide, by decide⟩ (d_X6_readThing_33) (fun x hx => (hno x hx).elim) ⟨by decide, by decide⟩ ⟨by decide, by decide⟩ (s_goto C0 (tgt := 40) (d_X6_readThing_36) (by decide) hgz (fun _ _ _ h => h)))) (okn rfl)))) (okn rfl))))))) (okn rfl) rfl) (okn rfl)))))) (okn rfl)))) (okn rfl)),
  s_ic C0 (d_X6_readThing_39) hgz (fun _ _ _ h => h) (okn rfl),
  s_is C0 (d_X6_readThing_40) hgz (s_iln C0 (d_X6_readThing_42) hgz (s_zeq C0 (d_X6_readThing_43) (by decide) hgz hgz (fun _ _ _ h => h) (s_aln C0 (d_X6_readThing_46) hgz (s_ic C0 (d_X6_readThing_47) hgz (s_bi C0 (d_X6_readThing_48) hgz (s_callVN C0 hE (c_X9_readNumber l) wg728 wn725 wg727 ws25 wg2 ⟨by decide, by decide⟩ (by decide +kernel) (c0 := 9) rfl ⟨by decide, by decide⟩ ⟨by decide, by decide⟩ (d_X6_readThing_50) (fun x hx => (hno x hx).elim) ⟨by decide, by decide⟩ ⟨by decide, by decide⟩ (s_goto C0 (tgt := 57) (d_X6_readThing_53) (by decide) hgz (fun _ _ _ h => h))) (okn rfl) rfl) (okn rfl))))),
  s_ic C0 (d_X6_readThing_56) hgz (fun _ _ _ h => h) (okn rfl),
  s_is C0 (d_X6_readThing_57) hgz (s_aln C0 (d_X6_readThing_59) hgz (s_callVN C0 hE (c_X9_isSound l) wg648 wn731 wg647 ws18 wg2 ⟨by decide, by decide⟩ (by decide +kernel) (c0 := 9) rfl ⟨by decide, by decide⟩ ⟨by decide, by decide⟩ (d_X6_readThing_60) (fun x hx => (hno x hx).elim) ⟨by decide, by decide⟩ ⟨by decide, by decide⟩ (s_zeq C0 (d_X6_readThing_63) (by decide) hgz hgz (fun _ _ _ h => h) (s_aln C0 (d_X6_readThing_66) hgz (s_gi C0 (j := 3) (c0 := 6) rfl gX6 (by decide) rfl (by decide) wg84 (d_X6_readThing_67) hgz (s_bi C0 (d_X6_readThing_70) hgz (s_cge C0 (d_X6_readThing_72) (by decide) hgz hgz (fun _ _ _ h => h) (s_aln C0 (d_X6_readThing_75) hgz (s_gr C0 (j := 4) (c0 := 6) rfl gX6 (by decide) rfl rfl wg92 (d_X6_readThing_76) hgz (s_aln C0 (d_X6_readThing_79) hgz (s_gi C0 (j := 3) (c0 := 6) rfl gX6 (by decide) rfl (by decide) wg84 (d_X6_readThing_80) hgz (s_iln C0 (d_X6_readThing_83) hgz (s_iax C0 (d_X6_readThing_84) hgz (s_aln C0 (d_X6_readThing_85) hgz (s_gr C0 (j := 5) (c0 := 6) rfl gX6 (by decide) rfl rfl wg98 (d_X6_readThing_86) hgz (s_aln C0 (d_X6_readThing_89) hgz (s_gi C0 (j := 3) (c0 := 6) rfl gX6 (by decide) rfl (by decide) wg84 (d_X6_readThing_90) hgz (s_il C0 (d_X6_readThing_93) hgz (s_iax C0 (d_X6_readThing_95) hgz (s_aln C0 (d_X6_readThing_96) hgz (s_gr C0 (j := 6) (c0 := 6) rfl gX6 (by decide) rfl rfl wg105 (d_X6_readThing_97) hgz (s_aln C0 (d_X6_readThing_100) hgz (s_gi C0 (j := 3) (c0 := 6) rfl gX6 (by decide) rfl (by decide) wg84 (d_X6_readThing_101) hgz (s_il C0 (d_X6_readThing_104) hgz (s_iax C0 (d_X6_readThing_106) hgz (s_aln C0 (d_X6_readThing_107) hgz (s_gr C0 (j := 7) (c0 := 6) rfl gX6 (by decide) rfl rfl wg110 (d_X6_readThing_108) hgz (s_aln C0 (d_X6_readThing_111) hgz (s_gi C0 (j := 3) (c0 := 6) rfl gX6 (by decide) rfl (by decide) wg84 (d_X6_readThing_112) hgz (s_il C0 (d_X6_readThing_115) hgz (s_iax C0 (d_X6_readThing_117) hgz (s_aln C0 (d_X6_readThing_118) hgz (s_dup C0 (d_X6_readThing_119) hgz (s_gi C0 (j := 3) (c0 := 6) rfl gX6 (by decide) rfl (by decide) wg84 (d_X6_readThing_120) hgz (s_ic C0 (d_X6_readThing_123) hgz (s_add C0 (d_X6_readThing_124) hgz (s_pi C0 (j := 3) (c0 := 6) rfl gX6 tyX6_ok nmX6 (by decide) rfl (by decide) rfl rfl wg84 (d_X6_readThing_125) hgz (fun _ _ _ h => h))) (okn rfl)))))))))))))))))))))))))))))) (okn rfl) rfl)))))),
  s_rv C0 hr (d_X6_readThing_128) ⟨by decide, by decide⟩⟩
theorem c_X6_readThing (l : Launch) : Ctr l yX6_readThing cX6_readThing 7 none 13 264 0 (fun sx => (nf G_X6_readThing)) := ctr_of (by decide) gz gz ⟨rfl, rfl⟩ (fun p e s m args below meth c D ca ad sx sy A Q as M C0 hE hr hno hF => P_X6_readThing (L_X6_readThing C0 hE hr hno) hF)
theorem wg669 : Cond.code ⟨"java/lang/String", "length", "()I"⟩ prog_22_method_54_code 1 (Option.some .int) ∈ GT := gt_mem 789 (by decide +kernel) rfl
theorem wg666 : Cond.methodLink "WeighedHall$Tape" 47 ⟨"java/lang/String", "length", "()I"⟩ ∈ GT := gt_mem 786 (by decide +kernel) rfl
theorem wg667 : Cond.instanceMethod ⟨"java/lang/String", "length", "()I"⟩ ∈ GT := gt_mem 787 (by decide +kernel) rfl
theorem wg668 : Cond.selects "java/lang/String" ⟨"java/lang/String", "length", "()I"⟩ ⟨"java/lang/String", "length", "()I"⟩ ∈ GT := gt_mem 788 (by decide +kernel) rfl
theorem wg679 : Cond.code ⟨"java/lang/String", "charAt", "(I)C"⟩ prog_22_method_56_code 2 (Option.some .char) ∈ GT := gt_mem 799 (by decide +kernel) rfl
theorem wg676 : Cond.methodLink "WeighedHall$Tape" 53 ⟨"java/lang/String", "charAt", "(I)C"⟩ ∈ GT := gt_mem 796 (by decide +kernel) rfl
theorem wg677 : Cond.instanceMethod ⟨"java/lang/String", "charAt", "(I)C"⟩ ∈ GT := gt_mem 797 (by decide +kernel) rfl
theorem wg678 : Cond.selects "java/lang/String" ⟨"java/lang/String", "charAt", "(I)C"⟩ ⟨"java/lang/String", "charAt", "(I)C"⟩ ∈ GT := gt_mem 798 (by decide +kernel) rfl
theorem d_X9_wordIs_0 : decode cX9_wordIs 0 = .ok (.aload_n 0, 1) := by decide +kernel
theorem d_X9_wordIs_1 : decode cX9_wordIs 1 = .ok (.getfield 34, 3) := by decide +kernel
theorem d_X9_wordIs_4 : decode cX9_wordIs 4 = .ok (.aload_n 0, 1) := by decide +kernel
theorem d_X9_wordIs_5 : decode cX9_wordIs 5 = .ok (.getfield 37, 3) := by decide +kernel
theorem d_X9_wordIs_8 : decode cX9_wordIs 8 = .ok (.isub, 1) := by decide +kernel
theorem d_X9_wordIs_9 : decode cX9_wordIs 9 = .ok (.istore_n 2, 1) := by decide +kernel
theorem d_X9_wordIs_10 : decode cX9_wordIs 10 = .ok (.iload_n 2, 1) := by decide +kernel
theorem d_X9_wordIs_11 : decode cX9_wordIs 11 = .ok (.aload_n 1, 1) := by decide +kernel
theorem d_X9_wordIs_12 : decode cX9_wordIs 12 = .ok (.invokevirtual 47, 3) := by decide +kernel
theorem d_X9_wordIs_15 : decode cX9_wordIs 15 = .ok (.if_icmp .eq 5, 3) := by decide +kernel
theorem d_X9_wordIs_18 : decode cX9_wordIs 18 = .ok (.iconst 0, 1) := by decide +kernel
theorem d_X9_wordIs_19 : decode cX9_wordIs 19 = .ok (.ireturn, 1) := by decide +kernel
theorem d_X9_wordIs_20 : decode cX9_wordIs 20 = .ok (.iconst 0, 1) := by decide +kernel
theorem d_X9_wordIs_21 : decode cX9_wordIs 21 = .ok (.istore_n 3, 1) := by decide +kernel
theorem d_X9_wordIs_22 : decode cX9_wordIs 22 = .ok (.iload_n 3, 1) := by decide +kernel
theorem d_X9_wordIs_23 : decode cX9_wordIs 23 = .ok (.iload_n 2, 1) := by decide +kernel
theorem d_X9_wordIs_24 : decode cX9_wordIs 24 = .ok (.if_icmp .ge 30, 3) := by decide +kernel
theorem d_X9_wordIs_27 : decode cX9_wordIs 27 = .ok (.aload_n 0, 1) := by decide +kernel
theorem d_X9_wordIs_28 : decode cX9_wordIs 28 = .ok (.getfield 9, 3) := by decide +kernel
theorem d_X9_wordIs_31 : decode cX9_wordIs 31 = .ok (.aload_n 0, 1) := by decide +kernel
theorem d_X9_wordIs_32 : decode cX9_wordIs 32 = .ok (.getfield 37, 3) := by decide +kernel
theorem d_X9_wordIs_35 : decode cX9_wordIs 35 = .ok (.iload_n 3, 1) := by decide +kernel
theorem d_X9_wordIs_36 : decode cX9_wordIs 36 = .ok (.iadd, 1) := by decide +kernel
theorem d_X9_wordIs_37 : decode cX9_wordIs 37 = .ok (.baload, 1) := by decide +kernel
theorem d_X9_wordIs_38 : decode cX9_wordIs 38 = .ok (.aload_n 1, 1) := by decide +kernel
theorem d_X9_wordIs_39 : decode cX9_wordIs 39 = .ok (.iload_n 3, 1) := by decide +kernel
theorem d_X9_wordIs_40 : decode cX9_wordIs 40 = .ok (.invokevirtual 53, 3) := by decide +kernel
theorem d_X9_wordIs_43 : decode cX9_wordIs 43 = .ok (.if_icmp .eq 5, 3) := by decide +kernel
theorem d_X9_wordIs_46 : decode cX9_wordIs 46 = .ok (.iconst 0, 1) := by decide +kernel
theorem d_X9_wordIs_47 : decode cX9_wordIs 47 = .ok (.ireturn, 1) := by decide +kernel
theorem d_X9_wordIs_48 : decode cX9_wordIs 48 = .ok (.iinc 3 1, 3) := by decide +kernel
theorem d_X9_wordIs_51 : decode cX9_wordIs 51 = .ok (.goto (-29), 3) := by decide +kernel
theorem d_X9_wordIs_54 : decode cX9_wordIs 54 = .ok (.iconst 1, 1) := by decide +kernel
theorem d_X9_wordIs_55 : decode cX9_wordIs 55 = .ok (.ireturn, 1) := by decide +kernel
set_option maxRecDepth 100000 in
theorem L_X9_wordIs {p : Program} {l : Launch} {e : Env} {s : State} {m : MethodId} {args : Array Value} {below : List Frame} {meth : Method} {c : Code} {D : va_G} {ca : Nat → ClassId} {ad sx sy : Nat → Nat} {A : Nat → Prop} {Q : QT} (C0 : CX p s m args meth c cX9_wordIs 4 yX9_wordIs.cls D ca ad A) (hE : EX sx sy A s s.heap) (hr : meth.sig.returnType = (some .boolean)) (hno : ∀ x ∈ c.exceptionTable.toList, False) : R_X9_wordIs sx (JW p l e { frames := 14, cells := 0, slots := 6 * 0, locals := 285 } s m args below meth c 4 D ca ad A (vx_MQ below (Qn D ca ad A Q) (Qx D ca ad A Q) args s 0 (6 * 0) A) gz gz true) Q := ⟨s_aln C0 (d_X9_wordIs_0) hgz (s_gi C0 (j := 3) (c0 := 9) rfl gX9 (by decide) rfl (by decide) wg43 (d_X9_wordIs_1) hgz (s_aln C0 (d_X9_wordIs_4) hgz (s_gi C0 (j := 4) (c0 := 9) rfl gX9 (by decide) rfl (by decide) wg44 (d_X9_wordIs_5) hgz (s_sub C0 (d_X9_wordIs_8) hgz (s_isn C0 (d_X9_wordIs_9) hgz (s_iln C0 (d_X9_wordIs_10) hgz (s_aln C0 (d_X9_wordIs_11) hgz (s_slen C0 hE (c_J0_length_8abf5 l) wg669 wg666 wg667 wg668 wg18 ⟨by decide, by decide⟩ (by decide +kernel) ⟨by decide, by decide⟩ ⟨by decide, by decide⟩ (d_X9_wordIs_12) (fun x hx => (hno x hx).elim) ⟨by decide, by decide⟩ ⟨by decide, by decide⟩ (s_ceq C0 (d_X9_wordIs_15) (by decide) hgz hgz (fun _ _ _ h => h) (s_ic C0 (d_X9_wordIs_18) hgz (s_rz C0 hr (d_X9_wordIs_19) ⟨by decide, by decide⟩) (okn rfl))))))))))),
  s_ic C0 (d_X9_wordIs_20) hgz (s_isn C0 (d_X9_wordIs_21) hgz (fun _ _ _ h => h)) (okn rfl),
  s_iln C0 (d_X9_wordIs_22) hgz (s_iln C0 (d_X9_wordIs_23) hgz (s_cge C0 (d_X9_wordIs_24) (by decide) hgz hgz (fun _ _ _ h => h) (s_aln C0 (d_X9_wordIs_27) hgz (s_gr C0 (j := 0) (c0 := 9) rfl gX9 (by decide) rfl rfl wg39 (d_X9_wordIs_28) hgz (s_aln C0 (d_X9_wordIs_31) hgz (s_gi C0 (j := 4) (c0 := 9) rfl gX9 (by decide) rfl (by decide) wg44 (d_X9_wordIs_32) hgz (s_iln C0 (d_X9_wordIs_35) hgz (s_add C0 (d_X9_wordIs_36) hgz (s_ba C0 (d_X9_wordIs_37) hgz (s_aln C0 (d_X9_wordIs_38) hgz (s_iln C0 (d_X9_wordIs_39) hgz (s_schr C0 hE (c_J0_charAt_5068e l) wg679 wg676 wg677 wg678 wg18 ⟨by decide, by decide⟩ (by decide +kernel) ⟨by decide, by decide⟩ ⟨by decide, by decide⟩ (d_X9_wordIs_40) (fun x hx => (hno x hx).elim) ⟨by decide, by decide⟩ ⟨by decide, by decide⟩ (s_ceq C0 (d_X9_wordIs_43) (by decide) hgz hgz (fun _ _ _ h => h) (s_ic C0 (d_X9_wordIs_46) hgz (s_rz C0 hr (d_X9_wordIs_47) ⟨by decide, by decide⟩) (okn rfl))))))))))))))),
  s_inc C0 (d_X9_wordIs_48) hgz (s_goto C0 (tgt := 22) (d_X9_wordIs_51) (by decide) hgz (fun _ _ _ h => h)),
  s_ic C0 (d_X9_wordIs_54) hgz (s_rz C0 hr (d_X9_wordIs_55) ⟨by decide, by decide⟩) (okn rfl)⟩
theorem c_X9_wordIs (l : Launch) : Ctr l yX9_wordIs cX9_wordIs 4 (some .boolean) 14 285 0 (fun sx => (nf (G_X9_wordIs sx))) := ctr_of (by decide) gz gz ⟨rfl, rfl⟩ (fun p e s m args below meth c D ca ad sx sy A Q as M C0 hE hr hno hF => P_X9_wordIs (L_X9_wordIs C0 hE hr hno) hF)
theorem d_X6_needRoom_0 : decode cX6_needRoom 0 = .ok (.iload_n 1, 1) := by decide +kernel
theorem d_X6_needRoom_1 : decode cX6_needRoom 1 = .ok (.ifCond .ne 8, 3) := by decide +kernel
theorem d_X6_needRoom_4 : decode cX6_needRoom 4 = .ok (.aload_n 0, 1) := by decide +kernel
theorem d_X6_needRoom_5 : decode cX6_needRoom 5 = .ok (.iconst 3, 1) := by decide +kernel
theorem d_X6_needRoom_6 : decode cX6_needRoom 6 = .ok (.invokevirtual 107, 3) := by decide +kernel
theorem d_X6_needRoom_9 : decode cX6_needRoom 9 = .ok (.return_, 1) := by decide +kernel
set_option maxRecDepth 100000 in
theorem L_X6_needRoom {p : Program} {l : Launch} {e : Env} {s : State} {m : MethodId} {args : Array Value} {below : List Frame} {meth : Method} {c : Code} {D : va_G} {ca : Nat → ClassId} {ad sx sy : Nat → Nat} {A : Nat → Prop} {Q : QT} (C0 : CX p s m args meth c cX6_needRoom 2 yX6_needRoom.cls D ca ad A) (hE : EX sx sy A s s.heap) (hr : meth.sig.returnType = none) (hno : ∀ x ∈ c.exceptionTable.toList, False) : R_X6_needRoom (JW p l e { frames := 12, cells := 0, slots := 6 * 0, locals := 241 } s m args below meth c 2 D ca ad A (vx_MQ below (Qn D ca ad A Q) (Qx D ca ad A Q) args s 0 (6 * 0) A) gz gz true) Q := ⟨s_iln C0 (d_X6_needRoom_0) hgz (s_zne C0 (d_X6_needRoom_1) (by decide) hgz hgz (fun _ _ _ h => h) (s_aln C0 (d_X6_needRoom_4) hgz (s_ic C0 (d_X6_needRoom_5) hgz (s_callVN C0 hE (c_X9_refuse l) wg720 wn717 wg719 ws23 wg2 ⟨by decide, by decide⟩ (by decide +kernel) (c0 := 9) rfl ⟨by decide, by decide⟩ ⟨by decide, by decide⟩ (d_X6_needRoom_6) (fun x hx => (hno x hx).elim) ⟨by decide, by decide⟩ ⟨by decide, by decide⟩ (fun _ _ _ h => h)) (okn rfl)))),
  s_rv C0 hr (d_X6_needRoom_9) ⟨by decide, by decide⟩⟩
theorem c_X6_needRoom (l : Launch) : Ctr l yX6_needRoom cX6_needRoom 2 none 12 241 0 (fun sx => (nf G_X6_needRoom)) := ctr_of (by decide) gz gz ⟨rfl, rfl⟩ (fun p e s m args below meth c D ca ad sx sy A Q as M C0 hE hr hno hF => P_X6_needRoom (L_X6_needRoom C0 hE hr hno) hF)
theorem wg80 : Cond.fieldLink "WeighedHall$Plan" 15 "WeighedHall$Plan" "arm" "[I" ∈ GT := gt_mem 200 (by decide +kernel) rfl
theorem wg77 : Cond.fieldLink "WeighedHall$Plan" 9 "WeighedHall$Plan" "party" "[I" ∈ GT := gt_mem 197 (by decide +kernel) rfl
theorem d_X6_readPerson_0 : decode cX6_readPerson 0 = .ok (.aload_n 1, 1) := by decide +kernel
theorem d_X6_readPerson_1 : decode cX6_readPerson 1 = .ok (.iconst 0, 1) := by decide +kernel
theorem d_X6_readPerson_2 : decode cX6_readPerson 2 = .ok (.iconst 3, 1) := by decide +kernel
theorem d_X6_readPerson_3 : decode cX6_readPerson 3 = .ok (.invokevirtual 111, 3) := by decide +kernel
theorem d_X6_readPerson_6 : decode cX6_readPerson 6 = .ok (.istore_n 2, 1) := by decide +kernel
theorem d_X6_readPerson_7 : decode cX6_readPerson 7 = .ok (.aload_n 1, 1) := by decide +kernel
theorem d_X6_readPerson_8 : decode cX6_readPerson 8 = .ok (.iconst 1, 1) := by decide +kernel
theorem d_X6_readPerson_9 : decode cX6_readPerson 9 = .ok (.bipush 99, 2) := by decide +kernel
theorem d_X6_readPerson_11 : decode cX6_readPerson 11 = .ok (.invokevirtual 111, 3) := by decide +kernel
theorem d_X6_readPerson_14 : decode cX6_readPerson 14 = .ok (.istore_n 3, 1) := by decide +kernel
theorem d_X6_readPerson_15 : decode cX6_readPerson 15 = .ok (.aload_n 1, 1) := by decide +kernel
theorem d_X6_readPerson_16 : decode cX6_readPerson 16 = .ok (.invokevirtual 115, 3) := by decide +kernel
theorem d_X6_readPerson_19 : decode cX6_readPerson 19 = .ok (.ifCond .eq 42, 3) := by decide +kernel
theorem d_X6_readPerson_22 : decode cX6_readPerson 22 = .ok (.aload_n 0, 1) := by decide +kernel
theorem d_X6_readPerson_23 : decode cX6_readPerson 23 = .ok (.getfield 42, 3) := by decide +kernel
theorem d_X6_readPerson_26 : decode cX6_readPerson 26 = .ok (.bipush 10, 2) := by decide +kernel
theorem d_X6_readPerson_28 : decode cX6_readPerson 28 = .ok (.if_icmp .ge 33, 3) := by decide +kernel
theorem d_X6_readPerson_31 : decode cX6_readPerson 31 = .ok (.aload_n 0, 1) := by decide +kernel
theorem d_X6_readPerson_32 : decode cX6_readPerson 32 = .ok (.getfield 9, 3) := by decide +kernel
theorem d_X6_readPerson_35 : decode cX6_readPerson 35 = .ok (.aload_n 0, 1) := by decide +kernel
theorem d_X6_readPerson_36 : decode cX6_readPerson 36 = .ok (.getfield 42, 3) := by decide +kernel
theorem d_X6_readPerson_39 : decode cX6_readPerson 39 = .ok (.iload_n 2, 1) := by decide +kernel
theorem d_X6_readPerson_40 : decode cX6_readPerson 40 = .ok (.iastore, 1) := by decide +kernel
theorem d_X6_readPerson_41 : decode cX6_readPerson 41 = .ok (.aload_n 0, 1) := by decide +kernel
theorem d_X6_readPerson_42 : decode cX6_readPerson 42 = .ok (.getfield 15, 3) := by decide +kernel
theorem d_X6_readPerson_45 : decode cX6_readPerson 45 = .ok (.aload_n 0, 1) := by decide +kernel
theorem d_X6_readPerson_46 : decode cX6_readPerson 46 = .ok (.getfield 42, 3) := by decide +kernel
theorem d_X6_readPerson_49 : decode cX6_readPerson 49 = .ok (.iload_n 3, 1) := by decide +kernel
theorem d_X6_readPerson_50 : decode cX6_readPerson 50 = .ok (.iastore, 1) := by decide +kernel
theorem d_X6_readPerson_51 : decode cX6_readPerson 51 = .ok (.aload_n 0, 1) := by decide +kernel
theorem d_X6_readPerson_52 : decode cX6_readPerson 52 = .ok (.dup, 1) := by decide +kernel
theorem d_X6_readPerson_53 : decode cX6_readPerson 53 = .ok (.getfield 42, 3) := by decide +kernel
theorem d_X6_readPerson_56 : decode cX6_readPerson 56 = .ok (.iconst 1, 1) := by decide +kernel
theorem d_X6_readPerson_57 : decode cX6_readPerson 57 = .ok (.iadd, 1) := by decide +kernel
theorem d_X6_readPerson_58 : decode cX6_readPerson 58 = .ok (.putfield 42, 3) := by decide +kernel
theorem d_X6_readPerson_61 : decode cX6_readPerson 61 = .ok (.return_, 1) := by decide +kernel
set_option maxRecDepth 100000 in
theorem L_X6_readPerson {p : Program} {l : Launch} {e : Env} {s : State} {m : MethodId} {args : Array Value} {below : List Frame} {meth : Method} {c : Code} {D : va_G} {ca : Nat → ClassId} {ad sx sy : Nat → Nat} {A : Nat → Prop} {Q : QT} (C0 : CX p s m args meth c cX6_readPerson 4 yX6_readPerson.cls D ca ad A) (hE : EX sx sy A s s.heap) (hr : meth.sig.returnType = none) (hno : ∀ x ∈ c.exceptionTable.toList, False) : R_X6_readPerson (JW p l e { frames := 13, cells := 0, slots := 6 * 0, locals := 264 } s m args below meth c 4 D ca ad A (vx_MQ below (Qn D ca ad A Q) (Qx D ca ad A Q) args s 0 (6 * 0) A) gz gz true) Q := ⟨s_aln C0 (d_X6_readPerson_0) hgz (s_ic C0 (d_X6_readPerson_1) hgz (s_ic C0 (d_X6_readPerson_2) hgz (s_callVN C0 hE (c_X9_readNumber l) wg728 wn725 wg727 ws25 wg2 ⟨by decide, by decide⟩ (by decide +kernel) (c0 := 9) rfl ⟨by decide, by decide⟩ ⟨by decide, by decide⟩ (d_X6_readPerson_3) (fun x hx => (hno x hx).elim) ⟨by decide, by decide⟩ ⟨by decide, by decide⟩ (s_isn C0 (d_X6_readPerson_6) hgz (s_aln C0 (d_X6_readPerson_7) hgz (s_ic C0 (d_X6_readPerson_8) hgz (s_bi C0 (d_X6_readPerson_9) hgz (s_callVN C0 hE (c_X9_readNumber l) wg728 wn725 wg727 ws25 wg2 ⟨by decide, by decide⟩ (by decide +kernel) (c0 := 9) rfl ⟨by decide, by decide⟩ ⟨by decide, by decide⟩ (d_X6_readPerson_11) (fun x hx => (hno x hx).elim) ⟨by decide, by decide⟩ ⟨by decide, by decide⟩ (s_isn C0 (d_X6_readPerson_14) hgz (s_aln C0 (d_X6_readPerson_15) hgz (s_callVN C0 hE (c_X9_isSound l) wg648 wn731 wg647 ws18 wg2 ⟨by decide, by decide⟩ (by decide +kernel) (c0 := 9) rfl ⟨by decide, by decide⟩ ⟨by decide, by decide⟩ (d_X6_readPerson_16) (fun x hx => (hno x hx).elim) ⟨by decide, by decide⟩ ⟨by decide, by decide⟩ (s_zeq C0 (d_X6_readPerson_19) (by decide) hgz hgz (fun _ _ _ h => h) (s_aln C0 (d_X6_readPerson_22) hgz (s_gi C0 (j := 0) (c0 := 6) rfl gX6 (by decide) rfl (by decide) wg71 (d_X6_readPerson_23) hgz (s_bi C0 (d_X6_readPerson_26) hgz (s_cge C0 (d_X6_readPerson_28) (by decide) hgz hgz (fun _ _ _ h => h) (s_aln C0 (d_X6_readPerson_31) hgz (s_gr C0 (j := 1) (c0 := 6) rfl gX6 (by decide) rfl rfl wg77 (d_X6_readPerson_32) hgz (s_aln C0 (d_X6_readPerson_35) hgz (s_gi C0 (j := 0) (c0 := 6) rfl gX6 (by decide) rfl (by decide) wg71 (d_X6_readPerson_36) hgz (s_iln C0 (d_X6_readPerson_39) hgz (s_iax C0 (d_X6_readPerson_40) hgz (s_aln C0 (d_X6_readPerson_41) hgz (s_gr C0 (j := 2) (c0 := 6) rfl gX6 (by decide) rfl rfl wg80 (d_X6_readPerson_42) hgz (s_aln C0 (d_X6_readPerson_45) hgz (s_gi C0 (j := 0) (c0 := 6) rfl gX6 (by decide) rfl (by decide) wg71 (d_X6_readPerson_46) hgz (s_iln C0 (d_X6_readPerson_49) hgz (s_iax C0 (d_X6_readPerson_50) hgz (s_aln C0 (d_X6_readPerson_51) hgz (s_dup C0 (d_X6_readPerson_52) hgz (s_gi C0 (j := 0) (c0 := 6) rfl gX6 (by decide) rfl (by decide) wg71 (d_X6_readPerson_53) hgz (s_ic C0 (d_X6_readPerson_56) hgz (s_add C0 (d_X6_readPerson_57) hgz (s_pi C0 (j := 0) (c0 := 6) rfl gX6 tyX6_ok nmX6 (by decide) rfl (by decide) rfl rfl wg71 (d_X6_readPerson_58) hgz (fun _ _ _ h => h))) (okn rfl)))))))))))))))))) (okn rfl) rfl)))))))) (okn rfl) rfl) (okn rfl))))) (okn rfl)) (okn rfl)),
  s_rv C0 hr (d_X6_readPerson_61) ⟨by decide, by decide⟩⟩
theorem c_X6_readPerson (l : Launch) : Ctr l yX6_readPerson cX6_readPerson 4 none 13 264 0 (fun sx => (nf G_X6_readPerson)) := ctr_of (by decide) gz gz ⟨rfl, rfl⟩ (fun p e s m args below meth c D ca ad sx sy A Q as M C0 hE hr hno hF => P_X6_readPerson (L_X6_readPerson C0 hE hr hno) hF)
theorem wg665 : Cond.code ⟨"WeighedHall$Tape", "wordIs", "(Ljava/lang/String;)Z"⟩ prog_11_method_9_code 4 (Option.some .boolean) ∈ GT := gt_mem 785 (by decide +kernel) rfl
theorem wn662 : Cond.methodLinkNest "WeighedHall$Plan" 76 ⟨"WeighedHall$Tape", "wordIs", "(Ljava/lang/String;)Z"⟩ "WeighedHall" ∈ NT := nt_mem 662 (by decide +kernel) rfl
theorem wg664 : Cond.instanceMethod ⟨"WeighedHall$Tape", "wordIs", "(Ljava/lang/String;)Z"⟩ ∈ GT := gt_mem 784 (by decide +kernel) rfl
theorem ws22 : Cond.selects "WeighedHall$Tape" ⟨"WeighedHall$Tape", "wordIs", "(Ljava/lang/String;)Z"⟩ ⟨"WeighedHall$Tape", "wordIs", "(Ljava/lang/String;)Z"⟩ ∈ GT := gt_mem 22 (by decide +kernel) rfl
theorem wg724 : Cond.code ⟨"WeighedHall$Plan", "readPerson", "(LWeighedHall$Tape;)V"⟩ prog_8_method_5_code 4 (Option.none : Option FieldType) ∈ GT := gt_mem 844 (by decide +kernel) rfl
theorem wg721 : Cond.methodLink "WeighedHall$Plan" 83 ⟨"WeighedHall$Plan", "readPerson", "(LWeighedHall$Tape;)V"⟩ ∈ GT := gt_mem 841 (by decide +kernel) rfl
theorem wg723 : Cond.instanceMethod ⟨"WeighedHall$Plan", "readPerson", "(LWeighedHall$Tape;)V"⟩ ∈ GT := gt_mem 843 (by decide +kernel) rfl
theorem ws24 : Cond.selects "WeighedHall$Plan" ⟨"WeighedHall$Plan", "readPerson", "(LWeighedHall$Tape;)V"⟩ ⟨"WeighedHall$Plan", "readPerson", "(LWeighedHall$Tape;)V"⟩ ∈ GT := gt_mem 24 (by decide +kernel) rfl
theorem wg716 : Cond.code ⟨"WeighedHall$Plan", "needRoom", "(LWeighedHall$Tape;Z)V"⟩ prog_8_method_4_code 2 (Option.none : Option FieldType) ∈ GT := gt_mem 836 (by decide +kernel) rfl
theorem wg714 : Cond.methodLink "WeighedHall$Plan" 80 ⟨"WeighedHall$Plan", "needRoom", "(LWeighedHall$Tape;Z)V"⟩ ∈ GT := gt_mem 834 (by decide +kernel) rfl
theorem wg715 : Cond.static ⟨"WeighedHall$Plan", "needRoom", "(LWeighedHall$Tape;Z)V"⟩ ∈ GT := gt_mem 835 (by decide +kernel) rfl
theorem wg736 : Cond.code ⟨"WeighedHall$Plan", "readThing", "(LWeighedHall$Tape;Z)V"⟩ prog_8_method_6_code 7 (Option.none : Option FieldType) ∈ GT := gt_mem 856 (by decide +kernel) rfl
theorem wg733 : Cond.methodLink "WeighedHall$Plan" 89 ⟨"WeighedHall$Plan", "readThing", "(LWeighedHall$Tape;Z)V"⟩ ∈ GT := gt_mem 853 (by decide +kernel) rfl
theorem wg735 : Cond.instanceMethod ⟨"WeighedHall$Plan", "readThing", "(LWeighedHall$Tape;Z)V"⟩ ∈ GT := gt_mem 855 (by decide +kernel) rfl
theorem ws26 : Cond.selects "WeighedHall$Plan" ⟨"WeighedHall$Plan", "readThing", "(LWeighedHall$Tape;Z)V"⟩ ⟨"WeighedHall$Plan", "readThing", "(LWeighedHall$Tape;Z)V"⟩ ∈ GT := gt_mem 26 (by decide +kernel) rfl
theorem wg741 : Cond.code ⟨"WeighedHall$Plan", "readDoor", "(LWeighedHall$Tape;)V"⟩ prog_8_method_7_code 3 (Option.none : Option FieldType) ∈ GT := gt_mem 861 (by decide +kernel) rfl
theorem wg738 : Cond.methodLink "WeighedHall$Plan" 93 ⟨"WeighedHall$Plan", "readDoor", "(LWeighedHall$Tape;)V"⟩ ∈ GT := gt_mem 858 (by decide +kernel) rfl
theorem wg740 : Cond.instanceMethod ⟨"WeighedHall$Plan", "readDoor", "(LWeighedHall$Tape;)V"⟩ ∈ GT := gt_mem 860 (by decide +kernel) rfl
theorem ws27 : Cond.selects "WeighedHall$Plan" ⟨"WeighedHall$Plan", "readDoor", "(LWeighedHall$Tape;)V"⟩ ⟨"WeighedHall$Plan", "readDoor", "(LWeighedHall$Tape;)V"⟩ ∈ GT := gt_mem 27 (by decide +kernel) rfl
theorem wg747 : Cond.code ⟨"WeighedHall$Plan", "readMotion", "(LWeighedHall$Tape;)V"⟩ prog_8_method_8_code 5 (Option.none : Option FieldType) ∈ GT := gt_mem 867 (by decide +kernel) rfl
theorem wg744 : Cond.methodLink "WeighedHall$Plan" 100 ⟨"WeighedHall$Plan", "readMotion", "(LWeighedHall$Tape;)V"⟩ ∈ GT := gt_mem 864 (by decide +kernel) rfl
theorem wg746 : Cond.instanceMethod ⟨"WeighedHall$Plan", "readMotion", "(LWeighedHall$Tape;)V"⟩ ∈ GT := gt_mem 866 (by decide +kernel) rfl
theorem ws28 : Cond.selects "WeighedHall$Plan" ⟨"WeighedHall$Plan", "readMotion", "(LWeighedHall$Tape;)V"⟩ ⟨"WeighedHall$Plan", "readMotion", "(LWeighedHall$Tape;)V"⟩ ∈ GT := gt_mem 28 (by decide +kernel) rfl
theorem wg756 : Cond.code ⟨"WeighedHall$Plan", "readLaw", "(LWeighedHall$Tape;)V"⟩ prog_8_method_9_code 3 (Option.none : Option FieldType) ∈ GT := gt_mem 876 (by decide +kernel) rfl
theorem wg753 : Cond.methodLink "WeighedHall$Plan" 104 ⟨"WeighedHall$Plan", "readLaw", "(LWeighedHall$Tape;)V"⟩ ∈ GT := gt_mem 873 (by decide +kernel) rfl
theorem wg755 : Cond.instanceMethod ⟨"WeighedHall$Plan", "readLaw", "(LWeighedHall$Tape;)V"⟩ ∈ GT := gt_mem 875 (by decide +kernel) rfl
theorem ws30 : Cond.selects "WeighedHall$Plan" ⟨"WeighedHall$Plan", "readLaw", "(LWeighedHall$Tape;)V"⟩ ⟨"WeighedHall$Plan", "readLaw", "(LWeighedHall$Tape;)V"⟩ ∈ GT := gt_mem 30 (by decide +kernel) rfl
theorem d_X6_readClause_0 : decode cX6_readClause 0 = .ok (.aload_n 1, 1) := by decide +kernel
theorem d_X6_readClause_1 : decode cX6_readClause 1 = .ok (.ldc 74, 2) := by decide +kernel
theorem d_X6_readClause_3 : decode cX6_readClause 3 = .ok (.invokevirtual 76, 3) := by decide +kernel
theorem d_X6_readClause_6 : decode cX6_readClause 6 = .ok (.ifCond .eq 33, 3) := by decide +kernel
theorem d_X6_readClause_9 : decode cX6_readClause 9 = .ok (.aload_n 1, 1) := by decide +kernel
theorem d_X6_readClause_10 : decode cX6_readClause 10 = .ok (.iload_n 2, 1) := by decide +kernel
theorem d_X6_readClause_11 : decode cX6_readClause 11 = .ok (.ifCond .eq 16, 3) := by decide +kernel
theorem d_X6_readClause_14 : decode cX6_readClause 14 = .ok (.aload_n 0, 1) := by decide +kernel
theorem d_X6_readClause_15 : decode cX6_readClause 15 = .ok (.getfield 42, 3) := by decide +kernel
theorem d_X6_readClause_18 : decode cX6_readClause 18 = .ok (.bipush 10, 2) := by decide +kernel
theorem d_X6_readClause_20 : decode cX6_readClause 20 = .ok (.if_icmp .ge 7, 3) := by decide +kernel
theorem d_X6_readClause_23 : decode cX6_readClause 23 = .ok (.iconst 1, 1) := by decide +kernel
theorem d_X6_readClause_24 : decode cX6_readClause 24 = .ok (.goto 4, 3) := by decide +kernel
theorem d_X6_readClause_27 : decode cX6_readClause 27 = .ok (.iconst 0, 1) := by decide +kernel
theorem d_X6_readClause_28 : decode cX6_readClause 28 = .ok (.invokestatic 80, 3) := by decide +kernel
theorem d_X6_readClause_31 : decode cX6_readClause 31 = .ok (.aload_n 0, 1) := by decide +kernel
theorem d_X6_readClause_32 : decode cX6_readClause 32 = .ok (.aload_n 1, 1) := by decide +kernel
theorem d_X6_readClause_33 : decode cX6_readClause 33 = .ok (.invokevirtual 83, 3) := by decide +kernel
theorem d_X6_readClause_36 : decode cX6_readClause 36 = .ok (.goto 187, 3) := by decide +kernel
theorem d_X6_readClause_39 : decode cX6_readClause 39 = .ok (.aload_n 1, 1) := by decide +kernel
theorem d_X6_readClause_40 : decode cX6_readClause 40 = .ok (.ldc 87, 2) := by decide +kernel
theorem d_X6_readClause_42 : decode cX6_readClause 42 = .ok (.invokevirtual 76, 3) := by decide +kernel
theorem d_X6_readClause_45 : decode cX6_readClause 45 = .ok (.ifCond .eq 34, 3) := by decide +kernel
theorem d_X6_readClause_48 : decode cX6_readClause 48 = .ok (.aload_n 1, 1) := by decide +kernel
theorem d_X6_readClause_49 : decode cX6_readClause 49 = .ok (.iload_n 2, 1) := by decide +kernel
theorem d_X6_readClause_50 : decode cX6_readClause 50 = .ok (.ifCond .eq 16, 3) := by decide +kernel
theorem d_X6_readClause_53 : decode cX6_readClause 53 = .ok (.aload_n 0, 1) := by decide +kernel
theorem d_X6_readClause_54 : decode cX6_readClause 54 = .ok (.getfield 46, 3) := by decide +kernel
theorem d_X6_readClause_57 : decode cX6_readClause 57 = .ok (.bipush 14, 2) := by decide +kernel
theorem d_X6_readClause_59 : decode cX6_readClause 59 = .ok (.if_icmp .ge 7, 3) := by decide +kernel
theorem d_X6_readClause_62 : decode cX6_readClause 62 = .ok (.iconst 1, 1) := by decide +kernel
theorem d_X6_readClause_63 : decode cX6_readClause 63 = .ok (.goto 4, 3) := by decide +kernel
theorem d_X6_readClause_66 : decode cX6_readClause 66 = .ok (.iconst 0, 1) := by decide +kernel
theorem d_X6_readClause_67 : decode cX6_readClause 67 = .ok (.invokestatic 80, 3) := by decide +kernel
theorem d_X6_readClause_70 : decode cX6_readClause 70 = .ok (.aload_n 0, 1) := by decide +kernel
theorem d_X6_readClause_71 : decode cX6_readClause 71 = .ok (.aload_n 1, 1) := by decide +kernel
theorem d_X6_readClause_72 : decode cX6_readClause 72 = .ok (.iconst 0, 1) := by decide +kernel
theorem d_X6_readClause_73 : decode cX6_readClause 73 = .ok (.invokevirtual 89, 3) := by decide +kernel
theorem d_X6_readClause_76 : decode cX6_readClause 76 = .ok (.goto 147, 3) := by decide +kernel
theorem d_X6_readClause_79 : decode cX6_readClause 79 = .ok (.aload_n 1, 1) := by decide +kernel
theorem d_X6_readClause_80 : decode cX6_readClause 80 = .ok (.ldc 92, 2) := by decide +kernel
theorem d_X6_readClause_82 : decode cX6_readClause 82 = .ok (.invokevirtual 76, 3) := by decide +kernel
theorem d_X6_readClause_85 : decode cX6_readClause 85 = .ok (.ifCond .eq 32, 3) := by decide +kernel
theorem d_X6_readClause_88 : decode cX6_readClause 88 = .ok (.aload_n 1, 1) := by decide +kernel
theorem d_X6_readClause_89 : decode cX6_readClause 89 = .ok (.iload_n 2, 1) := by decide +kernel
theorem d_X6_readClause_90 : decode cX6_readClause 90 = .ok (.ifCond .eq 15, 3) := by decide +kernel
theorem d_X6_readClause_93 : decode cX6_readClause 93 = .ok (.aload_n 0, 1) := by decide +kernel
theorem d_X6_readClause_94 : decode cX6_readClause 94 = .ok (.getfield 49, 3) := by decide +kernel
theorem d_X6_readClause_97 : decode cX6_readClause 97 = .ok (.iconst 3, 1) := by decide +kernel
theorem d_X6_readClause_98 : decode cX6_readClause 98 = .ok (.if_icmp .ge 7, 3) := by decide +kernel
theorem d_X6_readClause_101 : decode cX6_readClause 101 = .ok (.iconst 1, 1) := by decide +kernel
theorem d_X6_readClause_102 : decode cX6_readClause 102 = .ok (.goto 4, 3) := by decide +kernel
theorem d_X6_readClause_105 : decode cX6_readClause 105 = .ok (.iconst 0, 1) := by decide +kernel
theorem d_X6_readClause_106 : decode cX6_readClause 106 = .ok (.invokestatic 80, 3) := by decide +kernel
theorem d_X6_readClause_109 : decode cX6_readClause 109 = .ok (.aload_n 0, 1) := by decide +kernel
theorem d_X6_readClause_110 : decode cX6_readClause 110 = .ok (.aload_n 1, 1) := by decide +kernel
theorem d_X6_readClause_111 : decode cX6_readClause 111 = .ok (.invokevirtual 93, 3) := by decide +kernel
theorem d_X6_readClause_114 : decode cX6_readClause 114 = .ok (.goto 109, 3) := by decide +kernel
theorem d_X6_readClause_117 : decode cX6_readClause 117 = .ok (.aload_n 1, 1) := by decide +kernel
theorem d_X6_readClause_118 : decode cX6_readClause 118 = .ok (.ldc 96, 2) := by decide +kernel
theorem d_X6_readClause_120 : decode cX6_readClause 120 = .ok (.invokevirtual 76, 3) := by decide +kernel
theorem d_X6_readClause_123 : decode cX6_readClause 123 = .ok (.ifCond .eq 34, 3) := by decide +kernel
theorem d_X6_readClause_126 : decode cX6_readClause 126 = .ok (.aload_n 1, 1) := by decide +kernel
theorem d_X6_readClause_127 : decode cX6_readClause 127 = .ok (.iload_n 2, 1) := by decide +kernel
theorem d_X6_readClause_128 : decode cX6_readClause 128 = .ok (.ifCond .eq 16, 3) := by decide +kernel
theorem d_X6_readClause_131 : decode cX6_readClause 131 = .ok (.aload_n 0, 1) := by decide +kernel
theorem d_X6_readClause_132 : decode cX6_readClause 132 = .ok (.getfield 46, 3) := by decide +kernel
theorem d_X6_readClause_135 : decode cX6_readClause 135 = .ok (.bipush 14, 2) := by decide +kernel
theorem d_X6_readClause_137 : decode cX6_readClause 137 = .ok (.if_icmp .ge 7, 3) := by decide +kernel
theorem d_X6_readClause_140 : decode cX6_readClause 140 = .ok (.iconst 1, 1) := by decide +kernel
theorem d_X6_readClause_141 : decode cX6_readClause 141 = .ok (.goto 4, 3) := by decide +kernel
theorem d_X6_readClause_144 : decode cX6_readClause 144 = .ok (.iconst 0, 1) := by decide +kernel
theorem d_X6_readClause_145 : decode cX6_readClause 145 = .ok (.invokestatic 80, 3) := by decide +kernel
theorem d_X6_readClause_148 : decode cX6_readClause 148 = .ok (.aload_n 0, 1) := by decide +kernel
theorem d_X6_readClause_149 : decode cX6_readClause 149 = .ok (.aload_n 1, 1) := by decide +kernel
theorem d_X6_readClause_150 : decode cX6_readClause 150 = .ok (.iconst 1, 1) := by decide +kernel
theorem d_X6_readClause_151 : decode cX6_readClause 151 = .ok (.invokevirtual 89, 3) := by decide +kernel
theorem d_X6_readClause_154 : decode cX6_readClause 154 = .ok (.goto 69, 3) := by decide +kernel
theorem d_X6_readClause_157 : decode cX6_readClause 157 = .ok (.aload_n 1, 1) := by decide +kernel
theorem d_X6_readClause_158 : decode cX6_readClause 158 = .ok (.ldc 98, 2) := by decide +kernel
theorem d_X6_readClause_160 : decode cX6_readClause 160 = .ok (.invokevirtual 76, 3) := by decide +kernel
theorem d_X6_readClause_163 : decode cX6_readClause 163 = .ok (.ifCond .eq 33, 3) := by decide +kernel
theorem d_X6_readClause_166 : decode cX6_readClause 166 = .ok (.aload_n 1, 1) := by decide +kernel
theorem d_X6_readClause_167 : decode cX6_readClause 167 = .ok (.iload_n 2, 1) := by decide +kernel
theorem d_X6_readClause_168 : decode cX6_readClause 168 = .ok (.ifCond .eq 16, 3) := by decide +kernel
theorem d_X6_readClause_171 : decode cX6_readClause 171 = .ok (.aload_n 0, 1) := by decide +kernel
theorem d_X6_readClause_172 : decode cX6_readClause 172 = .ok (.getfield 52, 3) := by decide +kernel
theorem d_X6_readClause_175 : decode cX6_readClause 175 = .ok (.bipush 8, 2) := by decide +kernel
theorem d_X6_readClause_177 : decode cX6_readClause 177 = .ok (.if_icmp .ge 7, 3) := by decide +kernel
theorem d_X6_readClause_180 : decode cX6_readClause 180 = .ok (.iconst 1, 1) := by decide +kernel
theorem d_X6_readClause_181 : decode cX6_readClause 181 = .ok (.goto 4, 3) := by decide +kernel
theorem d_X6_readClause_184 : decode cX6_readClause 184 = .ok (.iconst 0, 1) := by decide +kernel
theorem d_X6_readClause_185 : decode cX6_readClause 185 = .ok (.invokestatic 80, 3) := by decide +kernel
theorem d_X6_readClause_188 : decode cX6_readClause 188 = .ok (.aload_n 0, 1) := by decide +kernel
theorem d_X6_readClause_189 : decode cX6_readClause 189 = .ok (.aload_n 1, 1) := by decide +kernel
theorem d_X6_readClause_190 : decode cX6_readClause 190 = .ok (.invokevirtual 100, 3) := by decide +kernel
theorem d_X6_readClause_193 : decode cX6_readClause 193 = .ok (.goto 30, 3) := by decide +kernel
theorem d_X6_readClause_196 : decode cX6_readClause 196 = .ok (.aload_n 1, 1) := by decide +kernel
theorem d_X6_readClause_197 : decode cX6_readClause 197 = .ok (.ldc 103, 2) := by decide +kernel
theorem d_X6_readClause_199 : decode cX6_readClause 199 = .ok (.invokevirtual 76, 3) := by decide +kernel
theorem d_X6_readClause_202 : decode cX6_readClause 202 = .ok (.ifCond .eq 16, 3) := by decide +kernel
theorem d_X6_readClause_205 : decode cX6_readClause 205 = .ok (.aload_n 1, 1) := by decide +kernel
theorem d_X6_readClause_206 : decode cX6_readClause 206 = .ok (.iload_n 2, 1) := by decide +kernel
theorem d_X6_readClause_207 : decode cX6_readClause 207 = .ok (.invokestatic 80, 3) := by decide +kernel
theorem d_X6_readClause_210 : decode cX6_readClause 210 = .ok (.aload_n 0, 1) := by decide +kernel
theorem d_X6_readClause_211 : decode cX6_readClause 211 = .ok (.aload_n 1, 1) := by decide +kernel
theorem d_X6_readClause_212 : decode cX6_readClause 212 = .ok (.invokevirtual 104, 3) := by decide +kernel
theorem d_X6_readClause_215 : decode cX6_readClause 215 = .ok (.goto 8, 3) := by decide +kernel
theorem d_X6_readClause_218 : decode cX6_readClause 218 = .ok (.aload_n 1, 1) := by decide +kernel
theorem d_X6_readClause_219 : decode cX6_readClause 219 = .ok (.iconst 1, 1) := by decide +kernel
theorem d_X6_readClause_220 : decode cX6_readClause 220 = .ok (.invokevirtual 107, 3) := by decide +kernel
theorem d_X6_readClause_223 : decode cX6_readClause 223 = .ok (.return_, 1) := by decide +kernel
set_option maxRecDepth 100000 in
theorem L_X6_readClause {p : Program} {l : Launch} {e : Env} {s : State} {m : MethodId} {args : Array Value} {below : List Frame} {meth : Method} {c : Code} {D : va_G} {ca : Nat → ClassId} {ad sx sy : Nat → Nat} {A : Nat → Prop} {Q : QT} (C0 : CX p s m args meth c cX6_readClause 3 yX6_readClause.cls D ca ad A) (hE : EX sx sy A s s.heap) (hr : meth.sig.returnType = none) (hno : ∀ x ∈ c.exceptionTable.toList, False) : R_X6_readClause sx (JW p l e { frames := 15, cells := 0, slots := 6 * 0, locals := 308 } s m args below meth c 3 D ca ad A (vx_MQ below (Qn D ca ad A Q) (Qx D ca ad A Q) args s 0 (6 * 0) A) gz gz true) Q := ⟨s_aln C0 (d_X6_readClause_0) hgz (s_lds C0 hE (i := 0) rfl (d_X6_readClause_1) hgz (s_callVN C0 hE (c_X9_wordIs l) wg665 wn662 wg664 ws22 wg2 ⟨by decide, by decide⟩ (by decide +kernel) (c0 := 9) rfl ⟨by decide, by decide⟩ ⟨by decide, by decide⟩ (d_X6_readClause_3) (fun x hx => (hno x hx).elim) ⟨by decide, by decide⟩ ⟨by decide, by decide⟩ (s_zeq C0 (d_X6_readClause_6) (by decide) hgz hgz (fun _ _ _ h => h) (s_aln C0 (d_X6_readClause_9) hgz (s_iln C0 (d_X6_readClause_10) hgz (s_zeq C0 (d_X6_readClause_11) (by decide) hgz hgz (fun _ _ _ h => h) (s_aln C0 (d_X6_readClause_14) hgz (s_gi C0 (j := 0) (c0 := 6) rfl gX6 (by decide) rfl (by decide) wg71 (d_X6_readClause_15) hgz (s_bi C0 (d_X6_readClause_18) hgz (s_cge C0 (d_X6_readClause_20) (by decide) hgz hgz (fun _ _ _ h => h) (s_ic C0 (d_X6_readClause_23) hgz (s_goto C0 (tgt := 28) (d_X6_readClause_24) (by decide) hgz (fun _ _ _ h => h)) (okn rfl))) (okn rfl) rfl))))))))),
  s_ic C0 (d_X6_readClause_27) hgz (fun _ _ _ h => h) (okn rfl),
  s_callS C0 hE (c_X6_needRoom l) wg716 wg714 wg715 wg3 ⟨by decide, by decide⟩ (by decide +kernel) ⟨by decide, by decide⟩ ⟨by decide, by decide⟩ (d_X6_readClause_28) (fun x hx => (hno x hx).elim) ⟨by decide, by decide⟩ ⟨by decide, by decide⟩ (s_aln C0 (d_X6_readClause_31) hgz (s_aln C0 (d_X6_readClause_32) hgz (s_callV C0 hE (c_X6_readPerson l) wg724 wg721 wg723 ws24 wg3 ⟨by decide, by decide⟩ (by decide +kernel) (c0 := 6) rfl ⟨by decide, by decide⟩ ⟨by decide, by decide⟩ (d_X6_readClause_33) (fun x hx => (hno x hx).elim) ⟨by decide, by decide⟩ ⟨by decide, by decide⟩ (s_goto C0 (tgt := 223) (d_X6_readClause_36) (by decide) hgz (fun _ _ _ h => h))))),
  s_aln C0 (d_X6_readClause_39) hgz (s_lds C0 hE (i := 1) rfl (d_X6_readClause_40) hgz (s_callVN C0 hE (c_X9_wordIs l) wg665 wn662 wg664 ws22 wg2 ⟨by decide, by decide⟩ (by decide +kernel) (c0 := 9) rfl ⟨by decide, by decide⟩ ⟨by decide, by decide⟩ (d_X6_readClause_42) (fun x hx => (hno x hx).elim) ⟨by decide, by decide⟩ ⟨by decide, by decide⟩ (s_zeq C0 (d_X6_readClause_45) (by decide) hgz hgz (fun _ _ _ h => h) (s_aln C0 (d_X6_readClause_48) hgz (s_iln C0 (d_X6_readClause_49) hgz (s_zeq C0 (d_X6_readClause_50) (by decide) hgz hgz (fun _ _ _ h => h) (s_aln C0 (d_X6_readClause_53) hgz (s_gi C0 (j := 3) (c0 := 6) rfl gX6 (by decide) rfl (by decide) wg84 (d_X6_readClause_54) hgz (s_bi C0 (d_X6_readClause_57) hgz (s_cge C0 (d_X6_readClause_59) (by decide) hgz hgz (fun _ _ _ h => h) (s_ic C0 (d_X6_readClause_62) hgz (s_goto C0 (tgt := 67) (d_X6_readClause_63) (by decide) hgz (fun _ _ _ h => h)) (okn rfl))) (okn rfl) rfl))))))))),
  s_ic C0 (d_X6_readClause_66) hgz (fun _ _ _ h => h) (okn rfl),
  s_callS C0 hE (c_X6_needRoom l) wg716 wg714 wg715 wg3 ⟨by decide, by decide⟩ (by decide +kernel) ⟨by decide, by decide⟩ ⟨by decide, by decide⟩ (d_X6_readClause_67) (fun x hx => (hno x hx).elim) ⟨by decide, by decide⟩ ⟨by decide, by decide⟩ (s_aln C0 (d_X6_readClause_70) hgz (s_aln C0 (d_X6_readClause_71) hgz (s_ic C0 (d_X6_readClause_72) hgz (s_callV C0 hE (c_X6_readThing l) wg736 wg733 wg735 ws26 wg3 ⟨by decide, by decide⟩ (by decide +kernel) (c0 := 6) rfl ⟨by decide, by decide⟩ ⟨by decide, by decide⟩ (d_X6_readClause_73) (fun x hx => (hno x hx).elim) ⟨by decide, by decide⟩ ⟨by decide, by decide⟩ (s_goto C0 (tgt := 223) (d_X6_readClause_76) (by decide) hgz (fun _ _ _ h => h))) (okn rfl)))),
  s_aln C0 (d_X6_readClause_79) hgz (s_lds C0 hE (i := 2) rfl (d_X6_readClause_80) hgz (s_callVN C0 hE (c_X9_wordIs l) wg665 wn662 wg664 ws22 wg2 ⟨by decide, by decide⟩ (by decide +kernel) (c0 := 9) rfl ⟨by decide, by decide⟩ ⟨by decide, by decide⟩ (d_X6_readClause_82) (fun x hx => (hno x hx).elim) ⟨by decide, by decide⟩ ⟨by decide, by decide⟩ (s_zeq C0 (d_X6_readClause_85) (by decide) hgz hgz (fun _ _ _ h => h) (s_aln C0 (d_X6_readClause_88) hgz (s_iln C0 (d_X6_readClause_89) hgz (s_zeq C0 (d_X6_readClause_90) (by decide) hgz hgz (fun _ _ _ h => h) (s_aln C0 (d_X6_readClause_93) hgz (s_gi C0 (j := 8) (c0 := 6) rfl gX6 (by decide) rfl (by decide) wg112 (d_X6_readClause_94) hgz (s_ic C0 (d_X6_readClause_97) hgz (s_cge C0 (d_X6_readClause_98) (by decide) hgz hgz (fun _ _ _ h => h) (s_ic C0 (d_X6_readClause_101) hgz (s_goto C0 (tgt := 106) (d_X6_readClause_102) (by decide) hgz (fun _ _ _ h => h)) (okn rfl))) (okn rfl)))))))))),
  s_ic C0 (d_X6_readClause_105) hgz (fun _ _ _ h => h) (okn rfl),
  s_callS C0 hE (c_X6_needRoom l) wg716 wg714 wg715 wg3 ⟨by decide, by decide⟩ (by decide +kernel) ⟨by decide, by decide⟩ ⟨by decide, by decide⟩ (d_X6_readClause_106) (fun x hx => (hno x hx).elim) ⟨by decide, by decide⟩ ⟨by decide, by decide⟩ (s_aln C0 (d_X6_readClause_109) hgz (s_aln C0 (d_X6_readClause_110) hgz (s_callV C0 hE (c_X6_readDoor l) wg741 wg738 wg740 ws27 wg3 ⟨by decide, by decide⟩ (by decide +kernel) (c0 := 6) rfl ⟨by decide, by decide⟩ ⟨by decide, by decide⟩ (d_X6_readClause_111) (fun x hx => (hno x hx).elim) ⟨by decide, by decide⟩ ⟨by decide, by decide⟩ (s_goto C0 (tgt := 223) (d_X6_readClause_114) (by decide) hgz (fun _ _ _ h => h))))),
  s_aln C0 (d_X6_readClause_117) hgz (s_lds C0 hE (i := 3) rfl (d_X6_readClause_118) hgz (s_callVN C0 hE (c_X9_wordIs l) wg665 wn662 wg664 ws22 wg2 ⟨by decide, by decide⟩ (by decide +kernel) (c0 := 9) rfl ⟨by decide, by decide⟩ ⟨by decide, by decide⟩ (d_X6_readClause_120) (fun x hx => (hno x hx).elim) ⟨by decide, by decide⟩ ⟨by decide, by decide⟩ (s_zeq C0 (d_X6_readClause_123) (by decide) hgz hgz (fun _ _ _ h => h) (s_aln C0 (d_X6_readClause_126) hgz (s_iln C0 (d_X6_readClause_127) hgz (s_zeq C0 (d_X6_readClause_128) (by decide) hgz hgz (fun _ _ _ h => h) (s_aln C0 (d_X6_readClause_131) hgz (s_gi C0 (j := 3) (c0 := 6) rfl gX6 (by decide) rfl (by decide) wg84 (d_X6_readClause_132) hgz (s_bi C0 (d_X6_readClause_135) hgz (s_cge C0 (d_X6_readClause_137) (by decide) hgz hgz (fun _ _ _ h => h) (s_ic C0 (d_X6_readClause_140) hgz (s_goto C0 (tgt := 145) (d_X6_readClause_141) (by decide) hgz (fun _ _ _ h => h)) (okn rfl))) (okn rfl) rfl))))))))),
  s_ic C0 (d_X6_readClause_144) hgz (fun _ _ _ h => h) (okn rfl),
  s_callS C0 hE (c_X6_needRoom l) wg716 wg714 wg715 wg3 ⟨by decide, by decide⟩ (by decide +kernel) ⟨by decide, by decide⟩ ⟨by decide, by decide⟩ (d_X6_readClause_145) (fun x hx => (hno x hx).elim) ⟨by decide, by decide⟩ ⟨by decide, by decide⟩ (s_aln C0 (d_X6_readClause_148) hgz (s_aln C0 (d_X6_readClause_149) hgz (s_ic C0 (d_X6_readClause_150) hgz (s_callV C0 hE (c_X6_readThing l) wg736 wg733 wg735 ws26 wg3 ⟨by decide, by decide⟩ (by decide +kernel) (c0 := 6) rfl ⟨by decide, by decide⟩ ⟨by decide, by decide⟩ (d_X6_readClause_151) (fun x hx => (hno x hx).elim) ⟨by decide, by decide⟩ ⟨by decide, by decide⟩ (s_goto C0 (tgt := 223) (d_X6_readClause_154) (by decide) hgz (fun _ _ _ h => h))) (okn rfl)))),
  s_aln C0 (d_X6_readClause_157) hgz (s_lds C0 hE (i := 4) rfl (d_X6_readClause_158) hgz (s_callVN C0 hE (c_X9_wordIs l) wg665 wn662 wg664 ws22 wg2 ⟨by decide, by decide⟩ (by decide +kernel) (c0 := 9) rfl ⟨by decide, by decide⟩ ⟨by decide, by decide⟩ (d_X6_readClause_160) (fun x hx => (hno x hx).elim) ⟨by decide, by decide⟩ ⟨by decide, by decide⟩ (s_zeq C0 (d_X6_readClause_163) (by decide) hgz hgz (fun _ _ _ h => h) (s_aln C0 (d_X6_readClause_166) hgz (s_iln C0 (d_X6_readClause_167) hgz (s_zeq C0 (d_X6_readClause_168) (by decide) hgz hgz (fun _ _ _ h => h) (s_aln C0 (d_X6_readClause_171) hgz (s_gi C0 (j := 10) (c0 := 6) rfl gX6 (by decide) rfl (by decide) wg115 (d_X6_readClause_172) hgz (s_bi C0 (d_X6_readClause_175) hgz (s_cge C0 (d_X6_readClause_177) (by decide) hgz hgz (fun _ _ _ h => h) (s_ic C0 (d_X6_readClause_180) hgz (s_goto C0 (tgt := 185) (d_X6_readClause_181) (by decide) hgz (fun _ _ _ h => h)) (okn rfl))) (okn rfl) rfl))))))))),
  s_ic C0 (d_X6_readClause_184) hgz (fun _ _ _ h => h) (okn rfl),
  s_callS C0 hE (c_X6_needRoom l) wg716 wg714 wg715 wg3 ⟨by decide, by decide⟩ (by decide +kernel) ⟨by decide, by decide⟩ ⟨by decide, by decide⟩ (d_X6_readClause_185) (fun x hx => (hno x hx).elim) ⟨by decide, by decide⟩ ⟨by decide, by decide⟩ (s_aln C0 (d_X6_readClause_188) hgz (s_aln C0 (d_X6_readClause_189) hgz (s_callV C0 hE (c_X6_readMotion l) wg747 wg744 wg746 ws28 wg3 ⟨by decide, by decide⟩ (by decide +kernel) (c0 := 6) rfl ⟨by decide, by decide⟩ ⟨by decide, by decide⟩ (d_X6_readClause_190) (fun x hx => (hno x hx).elim) ⟨by decide, by decide⟩ ⟨by decide, by decide⟩ (s_goto C0 (tgt := 223) (d_X6_readClause_193) (by decide) hgz (fun _ _ _ h => h))))),
  s_aln C0 (d_X6_readClause_196) hgz (s_lds C0 hE (i := 5) rfl (d_X6_readClause_197) hgz (s_callVN C0 hE (c_X9_wordIs l) wg665 wn662 wg664 ws22 wg2 ⟨by decide, by decide⟩ (by decide +kernel) (c0 := 9) rfl ⟨by decide, by decide⟩ ⟨by decide, by decide⟩ (d_X6_readClause_199) (fun x hx => (hno x hx).elim) ⟨by decide, by decide⟩ ⟨by decide, by decide⟩ (s_zeq C0 (d_X6_readClause_202) (by decide) hgz hgz (fun _ _ _ h => h) (s_aln C0 (d_X6_readClause_205) hgz (s_iln C0 (d_X6_readClause_206) hgz (s_callS C0 hE (c_X6_needRoom l) wg716 wg714 wg715 wg3 ⟨by decide, by decide⟩ (by decide +kernel) ⟨by decide, by decide⟩ ⟨by decide, by decide⟩ (d_X6_readClause_207) (fun x hx => (hno x hx).elim) ⟨by decide, by decide⟩ ⟨by decide, by decide⟩ (s_aln C0 (d_X6_readClause_210) hgz (s_aln C0 (d_X6_readClause_211) hgz (s_callV C0 hE (c_X6_readLaw l) wg756 wg753 wg755 ws30 wg3 ⟨by decide, by decide⟩ (by decide +kernel) (c0 := 6) rfl ⟨by decide, by decide⟩ ⟨by decide, by decide⟩ (d_X6_readClause_212) (fun x hx => (hno x hx).elim) ⟨by decide, by decide⟩ ⟨by decide, by decide⟩ (s_goto C0 (tgt := 223) (d_X6_readClause_215) (by decide) hgz (fun _ _ _ h => h))))))))))),
  s_aln C0 (d_X6_readClause_218) hgz (s_ic C0 (d_X6_readClause_219) hgz (s_callVN C0 hE (c_X9_refuse l) wg720 wn717 wg719 ws23 wg2 ⟨by decide, by decide⟩ (by decide +kernel) (c0 := 9) rfl ⟨by decide, by decide⟩ ⟨by decide, by decide⟩ (d_X6_readClause_220) (fun x hx => (hno x hx).elim) ⟨by decide, by decide⟩ ⟨by decide, by decide⟩ (fun _ _ _ h => h)) (okn rfl)),
  s_rv C0 hr (d_X6_readClause_223) ⟨by decide, by decide⟩⟩
theorem c_X6_readClause (l : Launch) : Ctr l yX6_readClause cX6_readClause 3 none 15 308 0 (fun sx => (nf G_X6_readClause)) := ctr_of (by decide) gz gz ⟨rfl, rfl⟩ (fun p e s m args below meth c D ca ad sx sy A Q as M C0 hE hr hno hF => P_X6_readClause (L_X6_readClause C0 hE hr hno) hF)
theorem wg656 : Cond.code ⟨"WeighedHall$Tape", "readWord", "()V"⟩ prog_11_method_8_code 1 (Option.none : Option FieldType) ∈ GT := gt_mem 776 (by decide +kernel) rfl
theorem wn653 : Cond.methodLinkNest "WeighedHall$Plan" 64 ⟨"WeighedHall$Tape", "readWord", "()V"⟩ "WeighedHall" ∈ NT := nt_mem 653 (by decide +kernel) rfl
theorem wg655 : Cond.instanceMethod ⟨"WeighedHall$Tape", "readWord", "()V"⟩ ∈ GT := gt_mem 775 (by decide +kernel) rfl
theorem ws20 : Cond.selects "WeighedHall$Tape" ⟨"WeighedHall$Tape", "readWord", "()V"⟩ ⟨"WeighedHall$Tape", "readWord", "()V"⟩ ∈ GT := gt_mem 20 (by decide +kernel) rfl
theorem wg644 : Cond.code ⟨"WeighedHall$Tape", "hasMore", "()Z"⟩ prog_11_method_7_code 1 (Option.some .boolean) ∈ GT := gt_mem 764 (by decide +kernel) rfl
theorem wn641 : Cond.methodLinkNest "WeighedHall$Plan" 58 ⟨"WeighedHall$Tape", "hasMore", "()Z"⟩ "WeighedHall" ∈ NT := nt_mem 641 (by decide +kernel) rfl
theorem wg643 : Cond.instanceMethod ⟨"WeighedHall$Tape", "hasMore", "()Z"⟩ ∈ GT := gt_mem 763 (by decide +kernel) rfl
theorem ws17 : Cond.selects "WeighedHall$Tape" ⟨"WeighedHall$Tape", "hasMore", "()Z"⟩ ⟨"WeighedHall$Tape", "hasMore", "()Z"⟩ ∈ GT := gt_mem 17 (by decide +kernel) rfl
theorem wg760 : Cond.code ⟨"WeighedHall$Tape", "readStop", "()V"⟩ prog_11_method_11_code 1 (Option.none : Option FieldType) ∈ GT := gt_mem 880 (by decide +kernel) rfl
theorem wn757 : Cond.methodLinkNest "WeighedHall$Plan" 71 ⟨"WeighedHall$Tape", "readStop", "()V"⟩ "WeighedHall" ∈ NT := nt_mem 757 (by decide +kernel) rfl
theorem wg759 : Cond.instanceMethod ⟨"WeighedHall$Tape", "readStop", "()V"⟩ ∈ GT := gt_mem 879 (by decide +kernel) rfl
theorem ws31 : Cond.selects "WeighedHall$Tape" ⟨"WeighedHall$Tape", "readStop", "()V"⟩ ⟨"WeighedHall$Tape", "readStop", "()V"⟩ ∈ GT := gt_mem 31 (by decide +kernel) rfl
theorem wg660 : Cond.code ⟨"WeighedHall$Plan", "readClause", "(LWeighedHall$Tape;Z)V"⟩ prog_8_method_3_code 3 (Option.none : Option FieldType) ∈ GT := gt_mem 780 (by decide +kernel) rfl
theorem wg657 : Cond.methodLink "WeighedHall$Plan" 67 ⟨"WeighedHall$Plan", "readClause", "(LWeighedHall$Tape;Z)V"⟩ ∈ GT := gt_mem 777 (by decide +kernel) rfl
theorem wg659 : Cond.instanceMethod ⟨"WeighedHall$Plan", "readClause", "(LWeighedHall$Tape;Z)V"⟩ ∈ GT := gt_mem 779 (by decide +kernel) rfl
theorem ws21 : Cond.selects "WeighedHall$Plan" ⟨"WeighedHall$Plan", "readClause", "(LWeighedHall$Tape;Z)V"⟩ ⟨"WeighedHall$Plan", "readClause", "(LWeighedHall$Tape;Z)V"⟩ ∈ GT := gt_mem 21 (by decide +kernel) rfl
theorem d_X6_readFrom_0 : decode cX6_readFrom 0 = .ok (.aload_n 0, 1) := by decide +kernel
theorem d_X6_readFrom_1 : decode cX6_readFrom 1 = .ok (.iconst 0, 1) := by decide +kernel
theorem d_X6_readFrom_2 : decode cX6_readFrom 2 = .ok (.putfield 42, 3) := by decide +kernel
theorem d_X6_readFrom_5 : decode cX6_readFrom 5 = .ok (.aload_n 0, 1) := by decide +kernel
theorem d_X6_readFrom_6 : decode cX6_readFrom 6 = .ok (.iconst 0, 1) := by decide +kernel
theorem d_X6_readFrom_7 : decode cX6_readFrom 7 = .ok (.putfield 46, 3) := by decide +kernel
theorem d_X6_readFrom_10 : decode cX6_readFrom 10 = .ok (.aload_n 0, 1) := by decide +kernel
theorem d_X6_readFrom_11 : decode cX6_readFrom 11 = .ok (.iconst 0, 1) := by decide +kernel
theorem d_X6_readFrom_12 : decode cX6_readFrom 12 = .ok (.putfield 49, 3) := by decide +kernel
theorem d_X6_readFrom_15 : decode cX6_readFrom 15 = .ok (.aload_n 0, 1) := by decide +kernel
theorem d_X6_readFrom_16 : decode cX6_readFrom 16 = .ok (.iconst 0, 1) := by decide +kernel
theorem d_X6_readFrom_17 : decode cX6_readFrom 17 = .ok (.putfield 52, 3) := by decide +kernel
theorem d_X6_readFrom_20 : decode cX6_readFrom 20 = .ok (.aload_n 0, 1) := by decide +kernel
theorem d_X6_readFrom_21 : decode cX6_readFrom 21 = .ok (.iconst 0, 1) := by decide +kernel
theorem d_X6_readFrom_22 : decode cX6_readFrom 22 = .ok (.putfield 55, 3) := by decide +kernel
theorem d_X6_readFrom_25 : decode cX6_readFrom 25 = .ok (.iconst 0, 1) := by decide +kernel
theorem d_X6_readFrom_26 : decode cX6_readFrom 26 = .ok (.istore_n 2, 1) := by decide +kernel
theorem d_X6_readFrom_27 : decode cX6_readFrom 27 = .ok (.iload_n 2, 1) := by decide +kernel
theorem d_X6_readFrom_28 : decode cX6_readFrom 28 = .ok (.bipush 60, 2) := by decide +kernel
theorem d_X6_readFrom_30 : decode cX6_readFrom 30 = .ok (.if_icmp .gt 40, 3) := by decide +kernel
theorem d_X6_readFrom_33 : decode cX6_readFrom 33 = .ok (.aload_n 1, 1) := by decide +kernel
theorem d_X6_readFrom_34 : decode cX6_readFrom 34 = .ok (.invokevirtual 58, 3) := by decide +kernel
theorem d_X6_readFrom_37 : decode cX6_readFrom 37 = .ok (.ifCond .eq 33, 3) := by decide +kernel
theorem d_X6_readFrom_40 : decode cX6_readFrom 40 = .ok (.aload_n 1, 1) := by decide +kernel
theorem d_X6_readFrom_41 : decode cX6_readFrom 41 = .ok (.invokevirtual 64, 3) := by decide +kernel
theorem d_X6_readFrom_44 : decode cX6_readFrom 44 = .ok (.aload_n 0, 1) := by decide +kernel
theorem d_X6_readFrom_45 : decode cX6_readFrom 45 = .ok (.aload_n 1, 1) := by decide +kernel
theorem d_X6_readFrom_46 : decode cX6_readFrom 46 = .ok (.iload_n 2, 1) := by decide +kernel
theorem d_X6_readFrom_47 : decode cX6_readFrom 47 = .ok (.bipush 60, 2) := by decide +kernel
theorem d_X6_readFrom_49 : decode cX6_readFrom 49 = .ok (.if_icmp .ge 7, 3) := by decide +kernel
theorem d_X6_readFrom_52 : decode cX6_readFrom 52 = .ok (.iconst 1, 1) := by decide +kernel
theorem d_X6_readFrom_53 : decode cX6_readFrom 53 = .ok (.goto 4, 3) := by decide +kernel
theorem d_X6_readFrom_56 : decode cX6_readFrom 56 = .ok (.iconst 0, 1) := by decide +kernel
theorem d_X6_readFrom_57 : decode cX6_readFrom 57 = .ok (.invokevirtual 67, 3) := by decide +kernel
theorem d_X6_readFrom_60 : decode cX6_readFrom 60 = .ok (.aload_n 1, 1) := by decide +kernel
theorem d_X6_readFrom_61 : decode cX6_readFrom 61 = .ok (.invokevirtual 71, 3) := by decide +kernel
theorem d_X6_readFrom_64 : decode cX6_readFrom 64 = .ok (.iinc 2 1, 3) := by decide +kernel
theorem d_X6_readFrom_67 : decode cX6_readFrom 67 = .ok (.goto (-40), 3) := by decide +kernel
theorem d_X6_readFrom_70 : decode cX6_readFrom 70 = .ok (.return_, 1) := by decide +kernel
set_option maxRecDepth 100000 in
theorem L_X6_readFrom {p : Program} {l : Launch} {e : Env} {s : State} {m : MethodId} {args : Array Value} {below : List Frame} {meth : Method} {c : Code} {D : va_G} {ca : Nat → ClassId} {ad sx sy : Nat → Nat} {A : Nat → Prop} {Q : QT} (C0 : CX p s m args meth c cX6_readFrom 3 yX6_readFrom.cls D ca ad A) (hE : EX sx sy A s s.heap) (hr : meth.sig.returnType = none) (hno : ∀ x ∈ c.exceptionTable.toList, False) : R_X6_readFrom (JW p l e { frames := 16, cells := 0, slots := 6 * 0, locals := 330 } s m args below meth c 3 D ca ad A (vx_MQ below (Qn D ca ad A Q) (Qx D ca ad A Q) args s 0 (6 * 0) A) gz gz true) Q := ⟨s_aln C0 (d_X6_readFrom_0) hgz (s_ic C0 (d_X6_readFrom_1) hgz (s_pi C0 (j := 0) (c0 := 6) rfl gX6 tyX6_ok nmX6 (by decide) rfl (by decide) rfl rfl wg71 (d_X6_readFrom_2) hgz (s_aln C0 (d_X6_readFrom_5) hgz (s_ic C0 (d_X6_readFrom_6) hgz (s_pi C0 (j := 3) (c0 := 6) rfl gX6 tyX6_ok nmX6 (by decide) rfl (by decide) rfl rfl wg84 (d_X6_readFrom_7) hgz (s_aln C0 (d_X6_readFrom_10) hgz (s_ic C0 (d_X6_readFrom_11) hgz (s_pi C0 (j := 8) (c0 := 6) rfl gX6 tyX6_ok nmX6 (by decide) rfl (by decide) rfl rfl wg112 (d_X6_readFrom_12) hgz (s_aln C0 (d_X6_readFrom_15) hgz (s_ic C0 (d_X6_readFrom_16) hgz (s_pi C0 (j := 10) (c0 := 6) rfl gX6 tyX6_ok nmX6 (by decide) rfl (by decide) rfl rfl wg115 (d_X6_readFrom_17) hgz (s_aln C0 (d_X6_readFrom_20) hgz (s_ic C0 (d_X6_readFrom_21) hgz (s_pi C0 (j := 14) (c0 := 6) rfl gX6 tyX6_ok nmX6 (by decide) rfl (by decide) rfl rfl wg131 (d_X6_readFrom_22) hgz (s_ic C0 (d_X6_readFrom_25) hgz (s_isn C0 (d_X6_readFrom_26) hgz (fun _ _ _ h => h)) (okn rfl))) (okn rfl)))) (okn rfl)))) (okn rfl)))) (okn rfl)))) (okn rfl)),
  s_iln C0 (d_X6_readFrom_27) hgz (s_bi C0 (d_X6_readFrom_28) hgz (s_cgt C0 (d_X6_readFrom_30) (by decide) hgz hgz (fun _ _ _ h => h) (s_aln C0 (d_X6_readFrom_33) hgz (s_callVN C0 hE (c_X9_hasMore l) wg644 wn641 wg643 ws17 wg2 ⟨by decide, by decide⟩ (by decide +kernel) (c0 := 9) rfl ⟨by decide, by decide⟩ ⟨by decide, by decide⟩ (d_X6_readFrom_34) (fun x hx => (hno x hx).elim) ⟨by decide, by decide⟩ ⟨by decide, by decide⟩ (s_zeq C0 (d_X6_readFrom_37) (by decide) hgz hgz (fun _ _ _ h => h) (s_aln C0 (d_X6_readFrom_40) hgz (s_callVN C0 hE (c_X9_readWord l) wg656 wn653 wg655 ws20 wg2 ⟨by decide, by decide⟩ (by decide +kernel) (c0 := 9) rfl ⟨by decide, by decide⟩ ⟨by decide, by decide⟩ (d_X6_readFrom_41) (fun x hx => (hno x hx).elim) ⟨by decide, by decide⟩ ⟨by decide, by decide⟩ (s_aln C0 (d_X6_readFrom_44) hgz (s_aln C0 (d_X6_readFrom_45) hgz (s_iln C0 (d_X6_readFrom_46) hgz (s_bi C0 (d_X6_readFrom_47) hgz (s_cge C0 (d_X6_readFrom_49) (by decide) hgz hgz (fun _ _ _ h => h) (s_ic C0 (d_X6_readFrom_52) hgz (s_goto C0 (tgt := 57) (d_X6_readFrom_53) (by decide) hgz (fun _ _ _ h => h)) (okn rfl))) (okn rfl) rfl)))))))))) (okn rfl) rfl),
  s_ic C0 (d_X6_readFrom_56) hgz (fun _ _ _ h => h) (okn rfl),
  s_callV C0 hE (c_X6_readClause l) wg660 wg657 wg659 ws21 wg3 ⟨by decide, by decide⟩ (by decide +kernel) (c0 := 6) rfl ⟨by decide, by decide⟩ ⟨by decide, by decide⟩ (d_X6_readFrom_57) (fun x hx => (hno x hx).elim) ⟨by decide, by decide⟩ ⟨by decide, by decide⟩ (s_aln C0 (d_X6_readFrom_60) hgz (s_callVN C0 hE (c_X9_readStop l) wg760 wn757 wg759 ws31 wg2 ⟨by decide, by decide⟩ (by decide +kernel) (c0 := 9) rfl ⟨by decide, by decide⟩ ⟨by decide, by decide⟩ (d_X6_readFrom_61) (fun x hx => (hno x hx).elim) ⟨by decide, by decide⟩ ⟨by decide, by decide⟩ (s_inc C0 (d_X6_readFrom_64) hgz (s_goto C0 (tgt := 27) (d_X6_readFrom_67) (by decide) hgz (fun _ _ _ h => h))))),
  s_rv C0 hr (d_X6_readFrom_70) ⟨by decide, by decide⟩⟩
theorem c_X6_readFrom (l : Launch) : Ctr l yX6_readFrom cX6_readFrom 3 none 16 330 0 (fun sx => (nf G_X6_readFrom)) := ctr_of (by decide) gz gz ⟨rfl, rfl⟩ (fun p e s m args below meth c D ca ad sx sy A Q as M C0 hE hr hno hF => P_X6_readFrom (L_X6_readFrom C0 hE hr hno) hF)
theorem wn46 : Cond.fieldLinkNest "WeighedHall" 119 "WeighedHall$Tape" "faultKind" "I" "WeighedHall" ∈ NT := nt_mem 46 (by decide +kernel) rfl
theorem wn761 : Cond.methodLinkNest "WeighedHall" 115 ⟨"WeighedHall$Tape", "isSound", "()Z"⟩ "WeighedHall" ∈ NT := nt_mem 761 (by decide +kernel) rfl
theorem wg640 : Cond.code ⟨"WeighedHall$Plan", "readFrom", "(LWeighedHall$Tape;)V"⟩ prog_8_method_2_code 3 (Option.none : Option FieldType) ∈ GT := gt_mem 760 (by decide +kernel) rfl
theorem wn637 : Cond.methodLinkNest "WeighedHall" 111 ⟨"WeighedHall$Plan", "readFrom", "(LWeighedHall$Tape;)V"⟩ "WeighedHall" ∈ NT := nt_mem 637 (by decide +kernel) rfl
theorem wg639 : Cond.instanceMethod ⟨"WeighedHall$Plan", "readFrom", "(LWeighedHall$Tape;)V"⟩ ∈ GT := gt_mem 759 (by decide +kernel) rfl
theorem ws16 : Cond.selects "WeighedHall$Plan" ⟨"WeighedHall$Plan", "readFrom", "(LWeighedHall$Tape;)V"⟩ ⟨"WeighedHall$Plan", "readFrom", "(LWeighedHall$Tape;)V"⟩ ∈ GT := gt_mem 16 (by decide +kernel) rfl
theorem wg395 : Cond.fieldLink "WeighedHall" 23 "WeighedHall" "sparePlan" "LWeighedHall$Plan;" ∈ GT := gt_mem 515 (by decide +kernel) rfl
theorem wg633 : Cond.code ⟨"WeighedHall$Tape", "open", "(I)V"⟩ prog_11_method_3_code 2 (Option.none : Option FieldType) ∈ GT := gt_mem 753 (by decide +kernel) rfl
theorem wn630 : Cond.methodLinkNest "WeighedHall" 108 ⟨"WeighedHall$Tape", "open", "(I)V"⟩ "WeighedHall" ∈ NT := nt_mem 630 (by decide +kernel) rfl
theorem wg632 : Cond.instanceMethod ⟨"WeighedHall$Tape", "open", "(I)V"⟩ ∈ GT := gt_mem 752 (by decide +kernel) rfl
theorem ws15 : Cond.selects "WeighedHall$Tape" ⟨"WeighedHall$Tape", "open", "(I)V"⟩ ⟨"WeighedHall$Tape", "open", "(I)V"⟩ ∈ GT := gt_mem 15 (by decide +kernel) rfl
theorem wn74 : Cond.fieldLinkNest "WeighedHall" 132 "WeighedHall$Plan" "persons" "I" "WeighedHall" ∈ NT := nt_mem 74 (by decide +kernel) rfl
theorem wg765 : Cond.code ⟨"WeighedHall$Loans", "clear", "()V"⟩ prog_7_method_2_code 1 (Option.none : Option FieldType) ∈ GT := gt_mem 885 (by decide +kernel) rfl
theorem wg4 : Cond.initialized "WeighedHall$Loans" ∈ GT := gt_mem 124 (by decide +kernel) rfl
theorem wn762 : Cond.methodLinkNest "WeighedHall" 122 ⟨"WeighedHall$Loans", "clear", "()V"⟩ "WeighedHall" ∈ NT := nt_mem 762 (by decide +kernel) rfl
theorem wg764 : Cond.instanceMethod ⟨"WeighedHall$Loans", "clear", "()V"⟩ ∈ GT := gt_mem 884 (by decide +kernel) rfl
theorem ws32 : Cond.selects "WeighedHall$Loans" ⟨"WeighedHall$Loans", "clear", "()V"⟩ ⟨"WeighedHall$Loans", "clear", "()V"⟩ ∈ GT := gt_mem 32 (by decide +kernel) rfl
theorem d_X10_hall_0 : decode cX10_hall 0 = .ok (.aload_n 0, 1) := by decide +kernel
theorem d_X10_hall_1 : decode cX10_hall 1 = .ok (.iload_n 1, 1) := by decide +kernel
theorem d_X10_hall_2 : decode cX10_hall 2 = .ok (.ifCond .lt 18, 3) := by decide +kernel
theorem d_X10_hall_5 : decode cX10_hall 5 = .ok (.iload_n 1, 1) := by decide +kernel
theorem d_X10_hall_6 : decode cX10_hall 6 = .ok (.aload_n 0, 1) := by decide +kernel
theorem d_X10_hall_7 : decode cX10_hall 7 = .ok (.getfield 10, 3) := by decide +kernel
theorem d_X10_hall_10 : decode cX10_hall 10 = .ok (.getfield 96, 3) := by decide +kernel
theorem d_X10_hall_13 : decode cX10_hall 13 = .ok (.if_icmp .gt 7, 3) := by decide +kernel
theorem d_X10_hall_16 : decode cX10_hall 16 = .ok (.iconst 1, 1) := by decide +kernel
theorem d_X10_hall_17 : decode cX10_hall 17 = .ok (.goto 4, 3) := by decide +kernel
theorem d_X10_hall_20 : decode cX10_hall 20 = .ok (.iconst 0, 1) := by decide +kernel
theorem d_X10_hall_21 : decode cX10_hall 21 = .ok (.invokevirtual 104, 3) := by decide +kernel
theorem d_X10_hall_24 : decode cX10_hall 24 = .ok (.aload_n 0, 1) := by decide +kernel
theorem d_X10_hall_25 : decode cX10_hall 25 = .ok (.getfield 10, 3) := by decide +kernel
theorem d_X10_hall_28 : decode cX10_hall 28 = .ok (.iload_n 1, 1) := by decide +kernel
theorem d_X10_hall_29 : decode cX10_hall 29 = .ok (.invokevirtual 108, 3) := by decide +kernel
theorem d_X10_hall_32 : decode cX10_hall 32 = .ok (.aload_n 0, 1) := by decide +kernel
theorem d_X10_hall_33 : decode cX10_hall 33 = .ok (.getfield 23, 3) := by decide +kernel
theorem d_X10_hall_36 : decode cX10_hall 36 = .ok (.aload_n 0, 1) := by decide +kernel
theorem d_X10_hall_37 : decode cX10_hall 37 = .ok (.getfield 10, 3) := by decide +kernel
theorem d_X10_hall_40 : decode cX10_hall 40 = .ok (.invokevirtual 111, 3) := by decide +kernel
theorem d_X10_hall_43 : decode cX10_hall 43 = .ok (.aload_n 0, 1) := by decide +kernel
theorem d_X10_hall_44 : decode cX10_hall 44 = .ok (.getfield 10, 3) := by decide +kernel
theorem d_X10_hall_47 : decode cX10_hall 47 = .ok (.invokevirtual 115, 3) := by decide +kernel
theorem d_X10_hall_50 : decode cX10_hall 50 = .ok (.ifCond .ne 14, 3) := by decide +kernel
theorem d_X10_hall_53 : decode cX10_hall 53 = .ok (.aload_n 0, 1) := by decide +kernel
theorem d_X10_hall_54 : decode cX10_hall 54 = .ok (.getfield 10, 3) := by decide +kernel
theorem d_X10_hall_57 : decode cX10_hall 57 = .ok (.getfield 119, 3) := by decide +kernel
theorem d_X10_hall_60 : decode cX10_hall 60 = .ok (.bipush 10, 2) := by decide +kernel
theorem d_X10_hall_62 : decode cX10_hall 62 = .ok (.isub, 1) := by decide +kernel
theorem d_X10_hall_63 : decode cX10_hall 63 = .ok (.ireturn, 1) := by decide +kernel
theorem d_X10_hall_64 : decode cX10_hall 64 = .ok (.aload_n 0, 1) := by decide +kernel
theorem d_X10_hall_65 : decode cX10_hall 65 = .ok (.getfield 19, 3) := by decide +kernel
theorem d_X10_hall_68 : decode cX10_hall 68 = .ok (.astore_n 2, 1) := by decide +kernel
theorem d_X10_hall_69 : decode cX10_hall 69 = .ok (.aload_n 0, 1) := by decide +kernel
theorem d_X10_hall_70 : decode cX10_hall 70 = .ok (.aload_n 0, 1) := by decide +kernel
theorem d_X10_hall_71 : decode cX10_hall 71 = .ok (.getfield 23, 3) := by decide +kernel
theorem d_X10_hall_74 : decode cX10_hall 74 = .ok (.putfield 19, 3) := by decide +kernel
theorem d_X10_hall_77 : decode cX10_hall 77 = .ok (.aload_n 0, 1) := by decide +kernel
theorem d_X10_hall_78 : decode cX10_hall 78 = .ok (.aload_n 2, 1) := by decide +kernel
theorem d_X10_hall_79 : decode cX10_hall 79 = .ok (.putfield 23, 3) := by decide +kernel
theorem d_X10_hall_82 : decode cX10_hall 82 = .ok (.aload_n 0, 1) := by decide +kernel
theorem d_X10_hall_83 : decode cX10_hall 83 = .ok (.getfield 29, 3) := by decide +kernel
theorem d_X10_hall_86 : decode cX10_hall 86 = .ok (.invokevirtual 122, 3) := by decide +kernel
theorem d_X10_hall_89 : decode cX10_hall 89 = .ok (.aload_n 0, 1) := by decide +kernel
theorem d_X10_hall_90 : decode cX10_hall 90 = .ok (.getfield 39, 3) := by decide +kernel
theorem d_X10_hall_93 : decode cX10_hall 93 = .ok (.invokevirtual 125, 3) := by decide +kernel
theorem d_X10_hall_96 : decode cX10_hall 96 = .ok (.aload_n 0, 1) := by decide +kernel
theorem d_X10_hall_97 : decode cX10_hall 97 = .ok (.iconst 0, 1) := by decide +kernel
theorem d_X10_hall_98 : decode cX10_hall 98 = .ok (.putfield 126, 3) := by decide +kernel
theorem d_X10_hall_101 : decode cX10_hall 101 = .ok (.aload_n 0, 1) := by decide +kernel
theorem d_X10_hall_102 : decode cX10_hall 102 = .ok (.invokevirtual 129, 3) := by decide +kernel
theorem d_X10_hall_105 : decode cX10_hall 105 = .ok (.aload_n 0, 1) := by decide +kernel
theorem d_X10_hall_106 : decode cX10_hall 106 = .ok (.getfield 19, 3) := by decide +kernel
theorem d_X10_hall_109 : decode cX10_hall 109 = .ok (.getfield 132, 3) := by decide +kernel
theorem d_X10_hall_112 : decode cX10_hall 112 = .ok (.ireturn, 1) := by decide +kernel
set_option maxRecDepth 100000 in
theorem L_X10_hall {p : Program} {l : Launch} {e : Env} {s : State} {m : MethodId} {args : Array Value} {below : List Frame} {meth : Method} {c : Code} {D : va_G} {ca : Nat → ClassId} {ad sx sy : Nat → Nat} {A : Nat → Prop} {Q : QT} (hl0 : l.stackTraces = false) (C0 : CX p s m args meth c cX10_hall 3 yX10_hall.cls D ca ad A) (hE : EX sx sy A s s.heap) (hr : meth.sig.returnType = (some .int)) (hno : ∀ x ∈ c.exceptionTable.toList, False) : R_X10_hall (JW p l e { frames := 17, cells := 1, slots := 6 * 1, locals := 352 } s m args below meth c 3 D ca ad A (vx_MQ below (Qn D ca ad A Q) (Qx D ca ad A Q) args s 1 (6 * 1) A) (gl [(21, 1)]) (gl6 [(21, 1)]) true) Q := ⟨s_aln C0 (d_X10_hall_0) (hgq rfl) (s_iln C0 (d_X10_hall_1) (hgq rfl) (s_zlt C0 (d_X10_hall_2) (by decide) (hgq rfl) (hgq rfl) (fun _ _ _ h => h) (s_iln C0 (d_X10_hall_5) (hgq rfl) (s_aln C0 (d_X10_hall_6) (hgq rfl) (s_gr C0 (j := 0) (c0 := 10) rfl gX10 (by decide) rfl rfl wg393 (d_X10_hall_7) (hgq rfl) (s_giN C0 (j := 1) (c0 := 9) rfl gX9 (by decide) rfl (by decide) wn40 (d_X10_hall_10) (hgq rfl) (s_cgt C0 (d_X10_hall_13) (by decide) (hgq rfl) (hgq rfl) (fun _ _ _ h => h) (s_ic C0 (d_X10_hall_16) (hgq rfl) (s_goto C0 (tgt := 21) (d_X10_hall_17) (by decide) (hgq rfl) (fun _ _ _ h => h)) (okn rfl))))))))),
  s_ic C0 (d_X10_hall_20) (hgq rfl) (fun _ _ _ h => h) (okn rfl),
  s_callV C0 hE (c_X10_needArgument l hl0) wg563 wg560 wg562 ws13 wg1 ⟨by decide, by decide⟩ (by decide +kernel) (c0 := 10) rfl ⟨by decide, by decide⟩ ⟨by decide, by decide⟩ (d_X10_hall_21) (fun x hx => (hno x hx).elim) ⟨by decide, by decide⟩ ⟨by decide, by decide⟩ (s_aln C0 (d_X10_hall_24) (hgq rfl) (s_gr C0 (j := 0) (c0 := 10) rfl gX10 (by decide) rfl rfl wg393 (d_X10_hall_25) (hgq rfl) (s_iln C0 (d_X10_hall_28) (hgq rfl) (s_callVN C0 hE (c_X9_open l) wg633 wn630 wg632 ws15 wg2 ⟨by decide, by decide⟩ (by decide +kernel) (c0 := 9) rfl ⟨by decide, by decide⟩ ⟨by decide, by decide⟩ (d_X10_hall_29) (fun x hx => (hno x hx).elim) ⟨by decide, by decide⟩ ⟨by decide, by decide⟩ (s_aln C0 (d_X10_hall_32) (hgq rfl) (s_gm C0 (j := 2) (c0 := 10) rfl gX10 (by decide) rfl rfl wg395 (d_X10_hall_33) (hgq rfl) (s_aln C0 (d_X10_hall_36) (hgq rfl) (s_gr C0 (j := 0) (c0 := 10) rfl gX10 (by decide) rfl rfl wg393 (d_X10_hall_37) (hgq rfl) (s_callVN C0 hE (c_X6_readFrom l) wg640 wn637 wg639 ws16 wg3 ⟨by decide, by decide⟩ (by decide +kernel) (c0 := 6) rfl ⟨by decide, by decide⟩ ⟨by decide, by decide⟩ (d_X10_hall_40) (fun x hx => (hno x hx).elim) ⟨by decide, by decide⟩ ⟨by decide, by decide⟩ (s_aln C0 (d_X10_hall_43) (hgq rfl) (s_gr C0 (j := 0) (c0 := 10) rfl gX10 (by decide) rfl rfl wg393 (d_X10_hall_44) (hgq rfl) (s_callVN C0 hE (c_X9_isSound l) wg648 wn761 wg647 ws18 wg2 ⟨by decide, by decide⟩ (by decide +kernel) (c0 := 9) rfl ⟨by decide, by decide⟩ ⟨by decide, by decide⟩ (d_X10_hall_47) (fun x hx => (hno x hx).elim) ⟨by decide, by decide⟩ ⟨by decide, by decide⟩ (s_zne C0 (d_X10_hall_50) (by decide) (hgq rfl) (hgq rfl) (fun _ _ _ h => h) (s_aln C0 (d_X10_hall_53) (hgq rfl) (s_gr C0 (j := 0) (c0 := 10) rfl gX10 (by decide) rfl rfl wg393 (d_X10_hall_54) (hgq rfl) (s_giN C0 (j := 5) (c0 := 9) rfl gX9 (by decide) rfl (by decide) wn46 (d_X10_hall_57) (hgq rfl) (s_bi C0 (d_X10_hall_60) (hgq rfl) (s_sub C0 (d_X10_hall_62) (hgq rfl) (s_ri C0 hr (d_X10_hall_63) ⟨by decide, by decide⟩)) (okn rfl) rfl))))))))))))))))),
  s_aln C0 (d_X10_hall_64) (hgq rfl) (s_gm C0 (j := 1) (c0 := 10) rfl gX10 (by decide) rfl rfl wg394 (d_X10_hall_65) (hgq rfl) (s_asn C0 (d_X10_hall_68) (hgq rfl) (s_aln C0 (d_X10_hall_69) (hgq rfl) (s_aln C0 (d_X10_hall_70) (hgq rfl) (s_gm C0 (j := 2) (c0 := 10) rfl gX10 (by decide) rfl rfl wg395 (d_X10_hall_71) (hgq rfl) (s_pm C0 (j := 1) (c0 := 10) rfl gX10 tyX10_ok nmX10 (by decide) rfl rfl rfl rfl wg394 (d_X10_hall_74) (hgq rfl) (s_aln C0 (d_X10_hall_77) (hgq rfl) (s_aln C0 (d_X10_hall_78) (hgq rfl) (s_pm C0 (j := 2) (c0 := 10) rfl gX10 tyX10_ok nmX10 (by decide) rfl rfl rfl rfl wg395 (d_X10_hall_79) (hgq rfl) (s_aln C0 (d_X10_hall_82) (hgq rfl) (s_gm C0 (j := 3) (c0 := 10) rfl gX10 (by decide) rfl rfl wg396 (d_X10_hall_83) (hgq rfl) (s_callVN C0 hE (c_X5_clear l) wg765 wn762 wg764 ws32 wg4 ⟨by decide, by decide⟩ (by decide +kernel) (c0 := 5) rfl ⟨by decide, by decide⟩ ⟨by decide, by decide⟩ (d_X10_hall_86) (fun x hx => (hno x hx).elim) ⟨by decide, by decide⟩ ⟨by decide, by decide⟩ (s_aln C0 (d_X10_hall_89) (hgq rfl) (s_gr C0 (j := 5) (c0 := 10) rfl gX10 (by decide) rfl rfl wg398 (d_X10_hall_90) (hgq rfl) (s_callVN C0 hE (c_X0_clear l) wg519 wn516 wg518 ws9 wg5 ⟨by decide, by decide⟩ (by decide +kernel) (c0 := 0) rfl ⟨by decide, by decide⟩ ⟨by decide, by decide⟩ (d_X10_hall_93) (fun x hx => (hno x hx).elim) ⟨by decide, by decide⟩ ⟨by decide, by decide⟩ (s_aln C0 (d_X10_hall_96) (hgq rfl) (s_ic C0 (d_X10_hall_97) (hgq rfl) (s_pi C0 (j := 8) (c0 := 10) rfl gX10 tyX10_ok nmX10 (by decide) rfl (by decide) rfl rfl wg401 (d_X10_hall_98) (hgq rfl) (s_aln C0 (d_X10_hall_101) (hgq rfl) (s_callV C0 hE (c_X10_startAnew l) wg523 wg520 wg522 ws10 wg1 ⟨by decide, by decide⟩ (by decide +kernel) (c0 := 10) rfl ⟨by decide, by decide⟩ ⟨by decide, by decide⟩ (d_X10_hall_102) (fun x hx => (hno x hx).elim) ⟨by decide, by decide⟩ ⟨by decide, by decide⟩ (s_aln C0 (d_X10_hall_105) (hgq rfl) (s_gm C0 (j := 1) (c0 := 10) rfl gX10 (by decide) rfl rfl wg394 (d_X10_hall_106) (hgq rfl) (s_giN C0 (j := 0) (c0 := 6) rfl gX6 (by decide) rfl (by decide) wn74 (d_X10_hall_109) (hgq rfl) (s_ri C0 hr (d_X10_hall_112) ⟨by decide, by decide⟩))))))) (okn rfl))))))))))))))))))⟩
theorem c_X10_hall (l : Launch) (hl0 : l.stackTraces = false) : Ctr l yX10_hall cX10_hall 3 (some .int) 17 352 1 (fun sx => F_X10_hall) := ctr_of (by decide) (gl [(21, 1)]) (gl6 [(21, 1)]) ⟨rfl, rfl⟩ (fun p e s m args below meth c D ca ad sx sy A Q as M C0 hE hr hno hF => P_X10_hall (L_X10_hall hl0 C0 hE hr hno) hF)
theorem d_X3_holderOf_0 : decode cX3_holderOf 0 = .ok (.iload_n 2, 1) := by decide +kernel
theorem d_X3_holderOf_1 : decode cX3_holderOf 1 = .ok (.bipush 14, 2) := by decide +kernel
theorem d_X3_holderOf_3 : decode cX3_holderOf 3 = .ok (.imul, 1) := by decide +kernel
theorem d_X3_holderOf_4 : decode cX3_holderOf 4 = .ok (.iload_n 1, 1) := by decide +kernel
theorem d_X3_holderOf_5 : decode cX3_holderOf 5 = .ok (.iadd, 1) := by decide +kernel
theorem d_X3_holderOf_6 : decode cX3_holderOf 6 = .ok (.istore_n 3, 1) := by decide +kernel
theorem d_X3_holderOf_7 : decode cX3_holderOf 7 = .ok (.iload_n 3, 1) := by decide +kernel
theorem d_X3_holderOf_8 : decode cX3_holderOf 8 = .ok (.ifCond .lt 21, 3) := by decide +kernel
theorem d_X3_holderOf_11 : decode cX3_holderOf 11 = .ok (.iload_n 3, 1) := by decide +kernel
theorem d_X3_holderOf_12 : decode cX3_holderOf 12 = .ok (.aload_n 0, 1) := by decide +kernel
theorem d_X3_holderOf_13 : decode cX3_holderOf 13 = .ok (.getfield 18, 3) := by decide +kernel
theorem d_X3_holderOf_16 : decode cX3_holderOf 16 = .ok (.arraylength, 1) := by decide +kernel
theorem d_X3_holderOf_17 : decode cX3_holderOf 17 = .ok (.if_icmp .ge 12, 3) := by decide +kernel
theorem d_X3_holderOf_20 : decode cX3_holderOf 20 = .ok (.aload_n 0, 1) := by decide +kernel
theorem d_X3_holderOf_21 : decode cX3_holderOf 21 = .ok (.getfield 18, 3) := by decide +kernel
theorem d_X3_holderOf_24 : decode cX3_holderOf 24 = .ok (.iload_n 3, 1) := by decide +kernel
theorem d_X3_holderOf_25 : decode cX3_holderOf 25 = .ok (.iaload, 1) := by decide +kernel
theorem d_X3_holderOf_26 : decode cX3_holderOf 26 = .ok (.goto 5, 3) := by decide +kernel
theorem d_X3_holderOf_29 : decode cX3_holderOf 29 = .ok (.bipush (-2), 2) := by decide +kernel
theorem d_X3_holderOf_31 : decode cX3_holderOf 31 = .ok (.ireturn, 1) := by decide +kernel
set_option maxRecDepth 100000 in
theorem L_X3_holderOf {p : Program} {l : Launch} {e : Env} {s : State} {m : MethodId} {args : Array Value} {below : List Frame} {meth : Method} {c : Code} {D : va_G} {ca : Nat → ClassId} {ad sx sy : Nat → Nat} {A : Nat → Prop} {Q : QT} (C0 : CX p s m args meth c cX3_holderOf 4 yX3_holderOf.cls D ca ad A) (hE : EX sx sy A s s.heap) (hr : meth.sig.returnType = (some .int)) (hno : ∀ x ∈ c.exceptionTable.toList, False) : R_X3_holderOf (JW p l e { frames := 10, cells := 0, slots := 6 * 0, locals := 200 } s m args below meth c 4 D ca ad A (vx_MQ below (Qn D ca ad A Q) (Qx D ca ad A Q) args s 0 (6 * 0) A) gz gz true) Q := ⟨s_iln C0 (d_X3_holderOf_0) hgz (s_bi C0 (d_X3_holderOf_1) hgz (s_mul C0 (d_X3_holderOf_3) hgz (s_iln C0 (d_X3_holderOf_4) hgz (s_add C0 (d_X3_holderOf_5) hgz (s_isn C0 (d_X3_holderOf_6) hgz (s_iln C0 (d_X3_holderOf_7) hgz (s_zlt C0 (d_X3_holderOf_8) (by decide) hgz hgz (fun _ _ _ h => h) (s_iln C0 (d_X3_holderOf_11) hgz (s_aln C0 (d_X3_holderOf_12) hgz (s_gr C0 (j := 1) (c0 := 3) rfl gX3 (by decide) rfl rfl wg271 (d_X3_holderOf_13) hgz (s_len C0 (d_X3_holderOf_16) hgz (s_cge C0 (d_X3_holderOf_17) (by decide) hgz hgz (fun _ _ _ h => h) (s_aln C0 (d_X3_holderOf_20) hgz (s_gr C0 (j := 1) (c0 := 3) rfl gX3 (by decide) rfl rfl wg271 (d_X3_holderOf_21) hgz (s_iln C0 (d_X3_holderOf_24) hgz (s_ia C0 (d_X3_holderOf_25) hgz (s_goto C0 (tgt := 31) (d_X3_holderOf_26) (by decide) hgz (fun _ _ _ h => h))))))))))))))))) (okn rfl) rfl),
  s_bi C0 (d_X3_holderOf_29) hgz (fun _ _ _ h => h) (okn rfl) rfl,
  s_ri C0 hr (d_X3_holderOf_31) ⟨by decide, by decide⟩⟩
theorem c_X3_holderOf (l : Launch) : Ctr l yX3_holderOf cX3_holderOf 4 (some .int) 10 200 0 (fun sx => (nf G_X3_holderOf)) := ctr_of (by decide) gz gz ⟨rfl, rfl⟩ (fun p e s m args below meth c D ca ad sx sy A Q as M C0 hE hr hno hF => P_X3_holderOf (L_X3_holderOf C0 hE hr hno) hF)
theorem d_X10_isMinute_0 : decode cX10_isMinute 0 = .ok (.iload_n 0, 1) := by decide +kernel
theorem d_X10_isMinute_1 : decode cX10_isMinute 1 = .ok (.ifCond .lt 13, 3) := by decide +kernel
theorem d_X10_isMinute_4 : decode cX10_isMinute 4 = .ok (.iload_n 0, 1) := by decide +kernel
theorem d_X10_isMinute_5 : decode cX10_isMinute 5 = .ok (.bipush 120, 2) := by decide +kernel
theorem d_X10_isMinute_7 : decode cX10_isMinute 7 = .ok (.if_icmp .ge 7, 3) := by decide +kernel
theorem d_X10_isMinute_10 : decode cX10_isMinute 10 = .ok (.iconst 1, 1) := by decide +kernel
theorem d_X10_isMinute_11 : decode cX10_isMinute 11 = .ok (.goto 4, 3) := by decide +kernel
theorem d_X10_isMinute_14 : decode cX10_isMinute 14 = .ok (.iconst 0, 1) := by decide +kernel
theorem d_X10_isMinute_15 : decode cX10_isMinute 15 = .ok (.ireturn, 1) := by decide +kernel
set_option maxRecDepth 100000 in
theorem L_X10_isMinute {p : Program} {l : Launch} {e : Env} {s : State} {m : MethodId} {args : Array Value} {below : List Frame} {meth : Method} {c : Code} {D : va_G} {ca : Nat → ClassId} {ad sx sy : Nat → Nat} {A : Nat → Prop} {Q : QT} (C0 : CX p s m args meth c cX10_isMinute 1 yX10_isMinute.cls D ca ad A) (hE : EX sx sy A s s.heap) (hr : meth.sig.returnType = (some .boolean)) (hno : ∀ x ∈ c.exceptionTable.toList, False) : R_X10_isMinute (JW p l e { frames := 10, cells := 0, slots := 6 * 0, locals := 200 } s m args below meth c 1 D ca ad A (vx_MQ below (Qn D ca ad A Q) (Qx D ca ad A Q) args s 0 (6 * 0) A) gz gz true) Q := ⟨s_iln C0 (d_X10_isMinute_0) hgz (s_zlt C0 (d_X10_isMinute_1) (by decide) hgz hgz (fun _ _ _ h => h) (s_iln C0 (d_X10_isMinute_4) hgz (s_bi C0 (d_X10_isMinute_5) hgz (s_cge C0 (d_X10_isMinute_7) (by decide) hgz hgz (fun _ _ _ h => h) (s_ic C0 (d_X10_isMinute_10) hgz (s_goto C0 (tgt := 15) (d_X10_isMinute_11) (by decide) hgz (fun _ _ _ h => h)) (okn rfl))) (okn rfl) rfl))),
  s_ic C0 (d_X10_isMinute_14) hgz (fun _ _ _ h => h) (okn rfl),
  s_rz C0 hr (d_X10_isMinute_15) ⟨by decide, by decide⟩⟩
theorem c_X10_isMinute (l : Launch) : Ctr l yX10_isMinute cX10_isMinute 1 (some .boolean) 10 200 0 (fun sx => (nf G_X10_isMinute)) := ctr_of (by decide) gz gz ⟨rfl, rfl⟩ (fun p e s m args below meth c D ca ad sx sy A Q as M C0 hE hr hno hF => P_X10_isMinute (L_X10_isMinute C0 hE hr hno) hF)
theorem wg935 : Cond.code ⟨"WeighedHall$Chronicle", "holderOf", "(II)I"⟩ prog_5_method_8_code 4 (Option.some .int) ∈ GT := gt_mem 1055 (by decide +kernel) rfl
theorem wn932 : Cond.methodLinkNest "WeighedHall" 199 ⟨"WeighedHall$Chronicle", "holderOf", "(II)I"⟩ "WeighedHall" ∈ NT := nt_mem 932 (by decide +kernel) rfl
theorem wg934 : Cond.instanceMethod ⟨"WeighedHall$Chronicle", "holderOf", "(II)I"⟩ ∈ GT := gt_mem 1054 (by decide +kernel) rfl
theorem ws54 : Cond.selects "WeighedHall$Chronicle" ⟨"WeighedHall$Chronicle", "holderOf", "(II)I"⟩ ⟨"WeighedHall$Chronicle", "holderOf", "(II)I"⟩ ∈ GT := gt_mem 54 (by decide +kernel) rfl
theorem wg931 : Cond.code ⟨"WeighedHall", "isMinute", "(I)Z"⟩ prog_1_method_38_code 1 (Option.some .boolean) ∈ GT := gt_mem 1051 (by decide +kernel) rfl
theorem wg929 : Cond.methodLink "WeighedHall" 196 ⟨"WeighedHall", "isMinute", "(I)Z"⟩ ∈ GT := gt_mem 1049 (by decide +kernel) rfl
theorem wg930 : Cond.static ⟨"WeighedHall", "isMinute", "(I)Z"⟩ ∈ GT := gt_mem 1050 (by decide +kernel) rfl
theorem d_X10_holds_0 : decode cX10_holds 0 = .ok (.aload_n 0, 1) := by decide +kernel
theorem d_X10_holds_1 : decode cX10_holds 1 = .ok (.aload_n 0, 1) := by decide +kernel
theorem d_X10_holds_2 : decode cX10_holds 2 = .ok (.getfield 19, 3) := by decide +kernel
theorem d_X10_holds_5 : decode cX10_holds 5 = .ok (.iload_n 1, 1) := by decide +kernel
theorem d_X10_holds_6 : decode cX10_holds 6 = .ok (.invokevirtual 174, 3) := by decide +kernel
theorem d_X10_holds_9 : decode cX10_holds 9 = .ok (.invokevirtual 160, 3) := by decide +kernel
theorem d_X10_holds_12 : decode cX10_holds 12 = .ok (.aload_n 0, 1) := by decide +kernel
theorem d_X10_holds_13 : decode cX10_holds 13 = .ok (.iload_n 2, 1) := by decide +kernel
theorem d_X10_holds_14 : decode cX10_holds 14 = .ok (.invokestatic 196, 3) := by decide +kernel
theorem d_X10_holds_17 : decode cX10_holds 17 = .ok (.invokevirtual 104, 3) := by decide +kernel
theorem d_X10_holds_20 : decode cX10_holds 20 = .ok (.aload_n 0, 1) := by decide +kernel
theorem d_X10_holds_21 : decode cX10_holds 21 = .ok (.invokevirtual 186, 3) := by decide +kernel
theorem d_X10_holds_24 : decode cX10_holds 24 = .ok (.iload_n 1, 1) := by decide +kernel
theorem d_X10_holds_25 : decode cX10_holds 25 = .ok (.iload_n 2, 1) := by decide +kernel
theorem d_X10_holds_26 : decode cX10_holds 26 = .ok (.invokevirtual 199, 3) := by decide +kernel
theorem d_X10_holds_29 : decode cX10_holds 29 = .ok (.ireturn, 1) := by decide +kernel
set_option maxRecDepth 100000 in
theorem L_X10_holds {p : Program} {l : Launch} {e : Env} {s : State} {m : MethodId} {args : Array Value} {below : List Frame} {meth : Method} {c : Code} {D : va_G} {ca : Nat → ClassId} {ad sx sy : Nat → Nat} {A : Nat → Prop} {Q : QT} (hl0 : l.stackTraces = false) (C0 : CX p s m args meth c cX10_holds 3 yX10_holds.cls D ca ad A) (hE : EX sx sy A s s.heap) (hr : meth.sig.returnType = (some .int)) (hno : ∀ x ∈ c.exceptionTable.toList, False) : R_X10_holds (JW p l e { frames := 16, cells := 2, slots := 6 * 2, locals := 336 } s m args below meth c 3 D ca ad A (vx_MQ below (Qn D ca ad A Q) (Qx D ca ad A Q) args s 2 (6 * 2) A) (gl [(9, 1), (17, 1)]) (gl6 [(9, 1), (17, 1)]) true) Q := s_aln C0 (d_X10_holds_0) (hgq rfl) (s_aln C0 (d_X10_holds_1) (hgq rfl) (s_gm C0 (j := 1) (c0 := 10) rfl gX10 (by decide) rfl rfl wg394 (d_X10_holds_2) (hgq rfl) (s_iln C0 (d_X10_holds_5) (hgq rfl) (s_callVN C0 hE (c_X6_hasThing l) wg791 wn840 wg790 ws35 wg3 ⟨by decide, by decide⟩ (by decide +kernel) (c0 := 6) rfl ⟨by decide, by decide⟩ ⟨by decide, by decide⟩ (d_X10_holds_6) (fun x hx => (hno x hx).elim) ⟨by decide, by decide⟩ ⟨by decide, by decide⟩ (s_callV C0 hE (c_X10_needElement l hl0) wg815 wg812 wg814 ws37 wg1 ⟨by decide, by decide⟩ (by decide +kernel) (c0 := 10) rfl ⟨by decide, by decide⟩ ⟨by decide, by decide⟩ (d_X10_holds_9) (fun x hx => (hno x hx).elim) ⟨by decide, by decide⟩ ⟨by decide, by decide⟩ (s_aln C0 (d_X10_holds_12) (hgq rfl) (s_iln C0 (d_X10_holds_13) (hgq rfl) (s_callS C0 hE (c_X10_isMinute l) wg931 wg929 wg930 wg1 ⟨by decide, by decide⟩ (by decide +kernel) ⟨by decide, by decide⟩ ⟨by decide, by decide⟩ (d_X10_holds_14) (fun x hx => (hno x hx).elim) ⟨by decide, by decide⟩ ⟨by decide, by decide⟩ (s_callV C0 hE (c_X10_needArgument l hl0) wg563 wg560 wg562 ws13 wg1 ⟨by decide, by decide⟩ (by decide +kernel) (c0 := 10) rfl ⟨by decide, by decide⟩ ⟨by decide, by decide⟩ (d_X10_holds_17) (fun x hx => (hno x hx).elim) ⟨by decide, by decide⟩ ⟨by decide, by decide⟩ (s_aln C0 (d_X10_holds_20) (hgq rfl) (s_callV C0 hE (c_X10_chronicled l) wg844 wg841 wg843 ws38 wg1 ⟨by decide, by decide⟩ (by decide +kernel) (c0 := 10) rfl ⟨by decide, by decide⟩ ⟨by decide, by decide⟩ (d_X10_holds_21) (fun x hx => (hno x hx).elim) ⟨by decide, by decide⟩ ⟨by decide, by decide⟩ (s_iln C0 (d_X10_holds_24) (hgq rfl) (s_iln C0 (d_X10_holds_25) (hgq rfl) (s_callVN C0 hE (c_X3_holderOf l) wg935 wn932 wg934 ws54 wg6 ⟨by decide, by decide⟩ (by decide +kernel) (c0 := 3) rfl ⟨by decide, by decide⟩ ⟨by decide, by decide⟩ (d_X10_holds_26) (fun x hx => (hno x hx).elim) ⟨by decide, by decide⟩ ⟨by decide, by decide⟩ (s_ri C0 hr (d_X10_holds_29) ⟨by decide, by decide⟩)))))))))))))))
theorem c_X10_holds (l : Launch) (hl0 : l.stackTraces = false) : Ctr l yX10_holds cX10_holds 3 (some .int) 16 336 2 (fun sx => F_X10_holds) := ctr_of (by decide) (gl [(9, 1), (17, 1)]) (gl6 [(9, 1), (17, 1)]) ⟨rfl, rfl⟩ (fun p e s m args below meth c D ca ad sx sy A Q as M C0 hE hr hno hF => P_X10_holds (L_X10_holds hl0 C0 hE hr hno) hF)
theorem wn208 : Cond.fieldLinkNest "WeighedHall$Hollows" 66 "WeighedHall$Ballots" "more" "[I" "WeighedHall" ∈ NT := nt_mem 208 (by decide +kernel) rfl
theorem wg376 : Cond.fieldLink "WeighedHall$Hollows" 9 "WeighedHall$Hollows" "over" "[I" ∈ GT := gt_mem 496 (by decide +kernel) rfl
theorem wn201 : Cond.fieldLinkNest "WeighedHall$Hollows" 38 "WeighedHall$Ballots" "number" "I" "WeighedHall" ∈ NT := nt_mem 201 (by decide +kernel) rfl
theorem wn1151 : Cond.methodLinkNest "WeighedHall$Hollows" 54 ⟨"WeighedHall", "isIn", "(II)Z"⟩ "WeighedHall" ∈ NT := nt_mem 1151 (by decide +kernel) rfl
theorem wn204 : Cond.fieldLinkNest "WeighedHall$Hollows" 72 "WeighedHall$Ballots" "pro" "[I" "WeighedHall" ∈ NT := nt_mem 204 (by decide +kernel) rfl
theorem wn95 : Cond.fieldLinkNest "WeighedHall$Hollows" 69 "WeighedHall$Plan" "owner" "[I" "WeighedHall" ∈ NT := nt_mem 95 (by decide +kernel) rfl
theorem wn86 : Cond.fieldLinkNest "WeighedHall$Hollows" 47 "WeighedHall$Plan" "things" "I" "WeighedHall" ∈ NT := nt_mem 86 (by decide +kernel) rfl
theorem wn206 : Cond.fieldLinkNest "WeighedHall$Hollows" 75 "WeighedHall$Ballots" "con" "[I" "WeighedHall" ∈ NT := nt_mem 206 (by decide +kernel) rfl
theorem wn101 : Cond.fieldLinkNest "WeighedHall$Hollows" 78 "WeighedHall$Plan" "weight" "[I" "WeighedHall" ∈ NT := nt_mem 101 (by decide +kernel) rfl
theorem wg377 : Cond.fieldLink "WeighedHall$Hollows" 15 "WeighedHall$Hollows" "change" "[I" ∈ GT := gt_mem 497 (by decide +kernel) rfl
theorem d_X4_weighAll_0 : decode cX4_weighAll 0 = .ok (.iconst 0, 1) := by decide +kernel
theorem d_X4_weighAll_1 : decode cX4_weighAll 1 = .ok (.istore_n 3, 1) := by decide +kernel
theorem d_X4_weighAll_2 : decode cX4_weighAll 2 = .ok (.iload_n 3, 1) := by decide +kernel
theorem d_X4_weighAll_3 : decode cX4_weighAll 3 = .ok (.aload_n 2, 1) := by decide +kernel
theorem d_X4_weighAll_4 : decode cX4_weighAll 4 = .ok (.getfield 38, 3) := by decide +kernel
theorem d_X4_weighAll_7 : decode cX4_weighAll 7 = .ok (.if_icmp .ge 140, 3) := by decide +kernel
theorem d_X4_weighAll_10 : decode cX4_weighAll 10 = .ok (.aload_n 0, 1) := by decide +kernel
theorem d_X4_weighAll_11 : decode cX4_weighAll 11 = .ok (.getfield 9, 3) := by decide +kernel
theorem d_X4_weighAll_14 : decode cX4_weighAll 14 = .ok (.iload_n 3, 1) := by decide +kernel
theorem d_X4_weighAll_15 : decode cX4_weighAll 15 = .ok (.aload_n 2, 1) := by decide +kernel
theorem d_X4_weighAll_16 : decode cX4_weighAll 16 = .ok (.getfield 66, 3) := by decide +kernel
theorem d_X4_weighAll_19 : decode cX4_weighAll 19 = .ok (.iload_n 3, 1) := by decide +kernel
theorem d_X4_weighAll_20 : decode cX4_weighAll 20 = .ok (.iaload, 1) := by decide +kernel
theorem d_X4_weighAll_21 : decode cX4_weighAll 21 = .ok (.ineg, 1) := by decide +kernel
theorem d_X4_weighAll_22 : decode cX4_weighAll 22 = .ok (.iastore, 1) := by decide +kernel
theorem d_X4_weighAll_23 : decode cX4_weighAll 23 = .ok (.iconst 0, 1) := by decide +kernel
theorem d_X4_weighAll_24 : decode cX4_weighAll 24 = .ok (.istore 4, 2) := by decide +kernel
theorem d_X4_weighAll_26 : decode cX4_weighAll 26 = .ok (.iload 4, 2) := by decide +kernel
theorem d_X4_weighAll_28 : decode cX4_weighAll 28 = .ok (.aload_n 1, 1) := by decide +kernel
theorem d_X4_weighAll_29 : decode cX4_weighAll 29 = .ok (.getfield 47, 3) := by decide +kernel
theorem d_X4_weighAll_32 : decode cX4_weighAll 32 = .ok (.if_icmp .ge 109, 3) := by decide +kernel
theorem d_X4_weighAll_35 : decode cX4_weighAll 35 = .ok (.aload_n 1, 1) := by decide +kernel
theorem d_X4_weighAll_36 : decode cX4_weighAll 36 = .ok (.getfield 69, 3) := by decide +kernel
theorem d_X4_weighAll_39 : decode cX4_weighAll 39 = .ok (.iload 4, 2) := by decide +kernel
theorem d_X4_weighAll_41 : decode cX4_weighAll 41 = .ok (.iaload, 1) := by decide +kernel
theorem d_X4_weighAll_42 : decode cX4_weighAll 42 = .ok (.aload_n 2, 1) := by decide +kernel
theorem d_X4_weighAll_43 : decode cX4_weighAll 43 = .ok (.getfield 72, 3) := by decide +kernel
theorem d_X4_weighAll_46 : decode cX4_weighAll 46 = .ok (.iload_n 3, 1) := by decide +kernel
theorem d_X4_weighAll_47 : decode cX4_weighAll 47 = .ok (.iaload, 1) := by decide +kernel
theorem d_X4_weighAll_48 : decode cX4_weighAll 48 = .ok (.invokestatic 54, 3) := by decide +kernel
theorem d_X4_weighAll_51 : decode cX4_weighAll 51 = .ok (.ifCond .eq 7, 3) := by decide +kernel
theorem d_X4_weighAll_54 : decode cX4_weighAll 54 = .ok (.iconst 1, 1) := by decide +kernel
theorem d_X4_weighAll_55 : decode cX4_weighAll 55 = .ok (.goto 27, 3) := by decide +kernel
theorem d_X4_weighAll_58 : decode cX4_weighAll 58 = .ok (.aload_n 1, 1) := by decide +kernel
theorem d_X4_weighAll_59 : decode cX4_weighAll 59 = .ok (.getfield 69, 3) := by decide +kernel
theorem d_X4_weighAll_62 : decode cX4_weighAll 62 = .ok (.iload 4, 2) := by decide +kernel
theorem d_X4_weighAll_64 : decode cX4_weighAll 64 = .ok (.iaload, 1) := by decide +kernel
theorem d_X4_weighAll_65 : decode cX4_weighAll 65 = .ok (.aload_n 2, 1) := by decide +kernel
theorem d_X4_weighAll_66 : decode cX4_weighAll 66 = .ok (.getfield 75, 3) := by decide +kernel
theorem d_X4_weighAll_69 : decode cX4_weighAll 69 = .ok (.iload_n 3, 1) := by decide +kernel
theorem d_X4_weighAll_70 : decode cX4_weighAll 70 = .ok (.iaload, 1) := by decide +kernel
theorem d_X4_weighAll_71 : decode cX4_weighAll 71 = .ok (.invokestatic 54, 3) := by decide +kernel
theorem d_X4_weighAll_74 : decode cX4_weighAll 74 = .ok (.ifCond .eq 7, 3) := by decide +kernel
theorem d_X4_weighAll_77 : decode cX4_weighAll 77 = .ok (.iconst (-1), 1) := by decide +kernel
theorem d_X4_weighAll_78 : decode cX4_weighAll 78 = .ok (.goto 4, 3) := by decide +kernel
theorem d_X4_weighAll_81 : decode cX4_weighAll 81 = .ok (.iconst 0, 1) := by decide +kernel
theorem d_X4_weighAll_82 : decode cX4_weighAll 82 = .ok (.istore 5, 2) := by decide +kernel
theorem d_X4_weighAll_84 : decode cX4_weighAll 84 = .ok (.aload_n 0, 1) := by decide +kernel
theorem d_X4_weighAll_85 : decode cX4_weighAll 85 = .ok (.getfield 9, 3) := by decide +kernel
theorem d_X4_weighAll_88 : decode cX4_weighAll 88 = .ok (.iload_n 3, 1) := by decide +kernel
theorem d_X4_weighAll_89 : decode cX4_weighAll 89 = .ok (.dup2, 1) := by decide +kernel
theorem d_X4_weighAll_90 : decode cX4_weighAll 90 = .ok (.iaload, 1) := by decide +kernel
theorem d_X4_weighAll_91 : decode cX4_weighAll 91 = .ok (.iload 5, 2) := by decide +kernel
theorem d_X4_weighAll_93 : decode cX4_weighAll 93 = .ok (.aload_n 1, 1) := by decide +kernel
theorem d_X4_weighAll_94 : decode cX4_weighAll 94 = .ok (.getfield 78, 3) := by decide +kernel
theorem d_X4_weighAll_97 : decode cX4_weighAll 97 = .ok (.iload 4, 2) := by decide +kernel
theorem d_X4_weighAll_99 : decode cX4_weighAll 99 = .ok (.iaload, 1) := by decide +kernel
theorem d_X4_weighAll_100 : decode cX4_weighAll 100 = .ok (.imul, 1) := by decide +kernel
theorem d_X4_weighAll_101 : decode cX4_weighAll 101 = .ok (.iadd, 1) := by decide +kernel
theorem d_X4_weighAll_102 : decode cX4_weighAll 102 = .ok (.iastore, 1) := by decide +kernel
theorem d_X4_weighAll_103 : decode cX4_weighAll 103 = .ok (.aload_n 0, 1) := by decide +kernel
theorem d_X4_weighAll_104 : decode cX4_weighAll 104 = .ok (.getfield 15, 3) := by decide +kernel
theorem d_X4_weighAll_107 : decode cX4_weighAll 107 = .ok (.iload_n 3, 1) := by decide +kernel
theorem d_X4_weighAll_108 : decode cX4_weighAll 108 = .ok (.bipush 14, 2) := by decide +kernel
theorem d_X4_weighAll_110 : decode cX4_weighAll 110 = .ok (.imul, 1) := by decide +kernel
theorem d_X4_weighAll_111 : decode cX4_weighAll 111 = .ok (.iload 4, 2) := by decide +kernel
theorem d_X4_weighAll_113 : decode cX4_weighAll 113 = .ok (.iadd, 1) := by decide +kernel
theorem d_X4_weighAll_114 : decode cX4_weighAll 114 = .ok (.iload 5, 2) := by decide +kernel
theorem d_X4_weighAll_116 : decode cX4_weighAll 116 = .ok (.aload_n 1, 1) := by decide +kernel
theorem d_X4_weighAll_117 : decode cX4_weighAll 117 = .ok (.getfield 78, 3) := by decide +kernel
theorem d_X4_weighAll_120 : decode cX4_weighAll 120 = .ok (.iload 4, 2) := by decide +kernel
theorem d_X4_weighAll_122 : decode cX4_weighAll 122 = .ok (.iaload, 1) := by decide +kernel
theorem d_X4_weighAll_123 : decode cX4_weighAll 123 = .ok (.iconst 2, 1) := by decide +kernel
theorem d_X4_weighAll_124 : decode cX4_weighAll 124 = .ok (.idiv, 1) := by decide +kernel
theorem d_X4_weighAll_125 : decode cX4_weighAll 125 = .ok (.aload_n 1, 1) := by decide +kernel
theorem d_X4_weighAll_126 : decode cX4_weighAll 126 = .ok (.getfield 78, 3) := by decide +kernel
theorem d_X4_weighAll_129 : decode cX4_weighAll 129 = .ok (.iload 4, 2) := by decide +kernel
theorem d_X4_weighAll_131 : decode cX4_weighAll 131 = .ok (.iaload, 1) := by decide +kernel
theorem d_X4_weighAll_132 : decode cX4_weighAll 132 = .ok (.isub, 1) := by decide +kernel
theorem d_X4_weighAll_133 : decode cX4_weighAll 133 = .ok (.imul, 1) := by decide +kernel
theorem d_X4_weighAll_134 : decode cX4_weighAll 134 = .ok (.iastore, 1) := by decide +kernel
theorem d_X4_weighAll_135 : decode cX4_weighAll 135 = .ok (.iinc 4 1, 3) := by decide +kernel
theorem d_X4_weighAll_138 : decode cX4_weighAll 138 = .ok (.goto (-112), 3) := by decide +kernel
theorem d_X4_weighAll_141 : decode cX4_weighAll 141 = .ok (.iinc 3 1, 3) := by decide +kernel
theorem d_X4_weighAll_144 : decode cX4_weighAll 144 = .ok (.goto (-142), 3) := by decide +kernel
theorem d_X4_weighAll_147 : decode cX4_weighAll 147 = .ok (.return_, 1) := by decide +kernel
set_option maxRecDepth 100000 in
theorem L_X4_weighAll {p : Program} {l : Launch} {e : Env} {s : State} {m : MethodId} {args : Array Value} {below : List Frame} {meth : Method} {c : Code} {D : va_G} {ca : Nat → ClassId} {ad sx sy : Nat → Nat} {A : Nat → Prop} {Q : QT} (C0 : CX p s m args meth c cX4_weighAll 6 yX4_weighAll.cls D ca ad A) (hE : EX sx sy A s s.heap) (hr : meth.sig.returnType = none) (hno : ∀ x ∈ c.exceptionTable.toList, False) : R_X4_weighAll (JW p l e { frames := 11, cells := 0, slots := 6 * 0, locals := 221 } s m args below meth c 6 D ca ad A (vx_MQ below (Qn D ca ad A Q) (Qx D ca ad A Q) args s 0 (6 * 0) A) gz gz true) Q := ⟨s_ic C0 (d_X4_weighAll_0) hgz (s_isn C0 (d_X4_weighAll_1) hgz (fun _ _ _ h => h)) (okn rfl),
  s_iln C0 (d_X4_weighAll_2) hgz (s_aln C0 (d_X4_weighAll_3) hgz (s_giN C0 (j := 0) (c0 := 0) rfl gX0 (by decide) rfl (by decide) wn201 (d_X4_weighAll_4) hgz (s_cge C0 (d_X4_weighAll_7) (by decide) hgz hgz (fun _ _ _ h => h) (s_aln C0 (d_X4_weighAll_10) hgz (s_gr C0 (j := 5) (c0 := 4) rfl gX4 (by decide) rfl rfl wg376 (d_X4_weighAll_11) hgz (s_iln C0 (d_X4_weighAll_14) hgz (s_aln C0 (d_X4_weighAll_15) hgz (s_grN C0 (j := 3) (c0 := 0) rfl gX0 (by decide) rfl rfl wn208 (d_X4_weighAll_16) hgz (s_iln C0 (d_X4_weighAll_19) hgz (s_ia C0 (d_X4_weighAll_20) hgz (s_neg C0 (d_X4_weighAll_21) hgz (s_iax C0 (d_X4_weighAll_22) hgz (s_ic C0 (d_X4_weighAll_23) hgz (s_is C0 (d_X4_weighAll_24) hgz (fun _ _ _ h => h)) (okn rfl)))))))))))))),
  s_il C0 (d_X4_weighAll_26) hgz (s_aln C0 (d_X4_weighAll_28) hgz (s_giN C0 (j := 3) (c0 := 6) rfl gX6 (by decide) rfl (by decide) wn86 (d_X4_weighAll_29) hgz (s_cge C0 (d_X4_weighAll_32) (by decide) hgz hgz (fun _ _ _ h => h) (s_aln C0 (d_X4_weighAll_35) hgz (s_grN C0 (j := 4) (c0 := 6) rfl gX6 (by decide) rfl rfl wn95 (d_X4_weighAll_36) hgz (s_il C0 (d_X4_weighAll_39) hgz (s_ia C0 (d_X4_weighAll_41) hgz (s_aln C0 (d_X4_weighAll_42) hgz (s_grN C0 (j := 1) (c0 := 0) rfl gX0 (by decide) rfl rfl wn204 (d_X4_weighAll_43) hgz (s_iln C0 (d_X4_weighAll_46) hgz (s_ia C0 (d_X4_weighAll_47) hgz (s_callSN C0 hE (c_X10_isIn l) wg491 wn1151 wg490 wg1 ⟨by decide, by decide⟩ (by decide +kernel) ⟨by decide, by decide⟩ ⟨by decide, by decide⟩ (d_X4_weighAll_48) (fun x hx => (hno x hx).elim) ⟨by decide, by decide⟩ ⟨by decide, by decide⟩ (s_zeq C0 (d_X4_weighAll_51) (by decide) hgz hgz (fun _ _ _ h => h) (s_ic C0 (d_X4_weighAll_54) hgz (s_goto C0 (tgt := 82) (d_X4_weighAll_55) (by decide) hgz (fun _ _ _ h => h)) (okn rfl))))))))))))))),
  s_aln C0 (d_X4_weighAll_58) hgz (s_grN C0 (j := 4) (c0 := 6) rfl gX6 (by decide) rfl rfl wn95 (d_X4_weighAll_59) hgz (s_il C0 (d_X4_weighAll_62) hgz (s_ia C0 (d_X4_weighAll_64) hgz (s_aln C0 (d_X4_weighAll_65) hgz (s_grN C0 (j := 2) (c0 := 0) rfl gX0 (by decide) rfl rfl wn206 (d_X4_weighAll_66) hgz (s_iln C0 (d_X4_weighAll_69) hgz (s_ia C0 (d_X4_weighAll_70) hgz (s_callSN C0 hE (c_X10_isIn l) wg491 wn1151 wg490 wg1 ⟨by decide, by decide⟩ (by decide +kernel) ⟨by decide, by decide⟩ ⟨by decide, by decide⟩ (d_X4_weighAll_71) (fun x hx => (hno x hx).elim) ⟨by decide, by decide⟩ ⟨by decide, by decide⟩ (s_zeq C0 (d_X4_weighAll_74) (by decide) hgz hgz (fun _ _ _ h => h) (s_ic C0 (d_X4_weighAll_77) hgz (s_goto C0 (tgt := 82) (d_X4_weighAll_78) (by decide) hgz (fun _ _ _ h => h)) (okn rfl))))))))))),
  s_ic C0 (d_X4_weighAll_81) hgz (fun _ _ _ h => h) (okn rfl),
  s_is C0 (d_X4_weighAll_82) hgz (s_aln C0 (d_X4_weighAll_84) hgz (s_gr C0 (j := 5) (c0 := 4) rfl gX4 (by decide) rfl rfl wg376 (d_X4_weighAll_85) hgz (s_iln C0 (d_X4_weighAll_88) hgz (s_dup2 C0 (d_X4_weighAll_89) hgz (s_ia C0 (d_X4_weighAll_90) hgz (s_il C0 (d_X4_weighAll_91) hgz (s_aln C0 (d_X4_weighAll_93) hgz (s_grN C0 (j := 5) (c0 := 6) rfl gX6 (by decide) rfl rfl wn101 (d_X4_weighAll_94) hgz (s_il C0 (d_X4_weighAll_97) hgz (s_ia C0 (d_X4_weighAll_99) hgz (s_mul C0 (d_X4_weighAll_100) hgz (s_add C0 (d_X4_weighAll_101) hgz (s_iax C0 (d_X4_weighAll_102) hgz (s_aln C0 (d_X4_weighAll_103) hgz (s_gr C0 (j := 6) (c0 := 4) rfl gX4 (by decide) rfl rfl wg377 (d_X4_weighAll_104) hgz (s_iln C0 (d_X4_weighAll_107) hgz (s_bi C0 (d_X4_weighAll_108) hgz (s_mul C0 (d_X4_weighAll_110) hgz (s_il C0 (d_X4_weighAll_111) hgz (s_add C0 (d_X4_weighAll_113) hgz (s_il C0 (d_X4_weighAll_114) hgz (s_aln C0 (d_X4_weighAll_116) hgz (s_grN C0 (j := 5) (c0 := 6) rfl gX6 (by decide) rfl rfl wn101 (d_X4_weighAll_117) hgz (s_il C0 (d_X4_weighAll_120) hgz (s_ia C0 (d_X4_weighAll_122) hgz (s_ic C0 (d_X4_weighAll_123) hgz (s_div C0 (d_X4_weighAll_124) hgz (s_aln C0 (d_X4_weighAll_125) hgz (s_grN C0 (j := 5) (c0 := 6) rfl gX6 (by decide) rfl rfl wn101 (d_X4_weighAll_126) hgz (s_il C0 (d_X4_weighAll_129) hgz (s_ia C0 (d_X4_weighAll_131) hgz (s_sub C0 (d_X4_weighAll_132) hgz (s_mul C0 (d_X4_weighAll_133) hgz (s_iax C0 (d_X4_weighAll_134) hgz (s_inc C0 (d_X4_weighAll_135) hgz (s_goto C0 (tgt := 26) (d_X4_weighAll_138) (by decide) hgz (fun _ _ _ h => h))))))))))) (okn rfl)))))))))) (okn rfl) rfl))))))))))))))))),
  s_inc C0 (d_X4_weighAll_141) hgz (s_goto C0 (tgt := 2) (d_X4_weighAll_144) (by decide) hgz (fun _ _ _ h => h)),
  s_rv C0 hr (d_X4_weighAll_147) ⟨by decide, by decide⟩⟩
theorem c_X4_weighAll (l : Launch) : Ctr l yX4_weighAll cX4_weighAll 6 none 11 221 0 (fun sx => (nf G_X4_weighAll)) := ctr_of (by decide) gz gz ⟨rfl, rfl⟩ (fun p e s m args below meth c D ca ad sx sy A Q as M C0 hE hr hno hF => P_X4_weighAll (L_X4_weighAll C0 hE hr hno) hF)
