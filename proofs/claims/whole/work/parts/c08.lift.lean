theorem wn731 : Cond.methodLinkNest "WeighedHall$Plan" 115 ⟨"WeighedHall$Tape", "isSound", "()Z"⟩ "WeighedHall" ∈ NT := nt_mem 731 (by decide +kernel) rfl
theorem wn725 : Cond.methodLinkNest "WeighedHall$Plan" 111 ⟨"WeighedHall$Tape", "readNumber", "(II)I"⟩ "WeighedHall" ∈ NT := nt_mem 725 (by decide +kernel) rfl
theorem d_X6_readDoor_0 : decode cX6_readDoor 0 = .ok (.aload_n 1, 1) := by decide +kernel
theorem d_X6_readDoor_1 : decode cX6_readDoor 1 = .ok (.iconst 1, 1) := by decide +kernel
theorem d_X6_readDoor_2 : decode cX6_readDoor 2 = .ok (.bipush 99, 2) := by decide +kernel
theorem d_X6_readDoor_4 : decode cX6_readDoor 4 = .ok (.invokevirtual 111, 3) := by decide +kernel
theorem d_X6_readDoor_7 : decode cX6_readDoor 7 = .ok (.istore_n 2, 1) := by decide +kernel
theorem d_X6_readDoor_8 : decode cX6_readDoor 8 = .ok (.aload_n 1, 1) := by decide +kernel
theorem d_X6_readDoor_9 : decode cX6_readDoor 9 = .ok (.invokevirtual 115, 3) := by decide +kernel
theorem d_X6_readDoor_12 : decode cX6_readDoor 12 = .ok (.ifCond .eq 31, 3) := by decide +kernel
theorem d_X6_readDoor_15 : decode cX6_readDoor 15 = .ok (.aload_n 0, 1) := by decide +kernel
theorem d_X6_readDoor_16 : decode cX6_readDoor 16 = .ok (.getfield 49, 3) := by decide +kernel
theorem d_X6_readDoor_19 : decode cX6_readDoor 19 = .ok (.iconst 3, 1) := by decide +kernel
theorem d_X6_readDoor_20 : decode cX6_readDoor 20 = .ok (.if_icmp .ge 23, 3) := by decide +kernel
theorem d_X6_readDoor_23 : decode cX6_readDoor 23 = .ok (.aload_n 0, 1) := by decide +kernel
theorem d_X6_readDoor_24 : decode cX6_readDoor 24 = .ok (.getfield 30, 3) := by decide +kernel
theorem d_X6_readDoor_27 : decode cX6_readDoor 27 = .ok (.aload_n 0, 1) := by decide +kernel
theorem d_X6_readDoor_28 : decode cX6_readDoor 28 = .ok (.getfield 49, 3) := by decide +kernel
theorem d_X6_readDoor_31 : decode cX6_readDoor 31 = .ok (.iload_n 2, 1) := by decide +kernel
theorem d_X6_readDoor_32 : decode cX6_readDoor 32 = .ok (.iastore, 1) := by decide +kernel
theorem d_X6_readDoor_33 : decode cX6_readDoor 33 = .ok (.aload_n 0, 1) := by decide +kernel
theorem d_X6_readDoor_34 : decode cX6_readDoor 34 = .ok (.dup, 1) := by decide +kernel
theorem d_X6_readDoor_35 : decode cX6_readDoor 35 = .ok (.getfield 49, 3) := by decide +kernel
theorem d_X6_readDoor_38 : decode cX6_readDoor 38 = .ok (.iconst 1, 1) := by decide +kernel
theorem d_X6_readDoor_39 : decode cX6_readDoor 39 = .ok (.iadd, 1) := by decide +kernel
theorem d_X6_readDoor_40 : decode cX6_readDoor 40 = .ok (.putfield 49, 3) := by decide +kernel
theorem d_X6_readDoor_43 : decode cX6_readDoor 43 = .ok (.return_, 1) := by decide +kernel
set_option maxRecDepth 100000 in
theorem L_X6_readDoor {p : Program} {l : Launch} {e : Env} {s : State} {m : MethodId} {args : Array Value} {below : List Frame} {meth : Method} {c : Code} {D : va_G} {ca : Nat → ClassId} {ad sx sy : Nat → Nat} {A : Nat → Prop} {Q : QT} (C0 : CX p s m args meth c cX6_readDoor 3 yX6_readDoor.cls D ca ad A) (hE : EX sx sy A s s.heap) (hr : meth.sig.returnType = none) (hno : ∀ x ∈ c.exceptionTable.toList, False) : R_X6_readDoor (JW p l e { frames := 13, cells := 0, slots := 6 * 0, locals := 264 } s m args below meth c 3 D ca ad A (vx_MQ below (Qn D ca ad A Q) (Qx D ca ad A Q) args s 0 (6 * 0) A) gz gz true) Q := ⟨s_aln C0 (d_X6_readDoor_0) hgz (s_ic C0 (d_X6_readDoor_1) hgz (s_bi C0 (d_X6_readDoor_2) hgz (s_callVN C0 hE (c_X9_readNumber l) wg728 wn725 wg727 ws25 wg2 ⟨by decide, by decide⟩ (by decide +kernel) (c0 := 9) rfl ⟨by decide, by decide⟩ ⟨by decide, by decide⟩ (d_X6_readDoor_4) (fun x hx => (hno x hx).elim) ⟨by decide, by decide⟩ ⟨by decide, by decide⟩ (s_isn C0 (d_X6_readDoor_7) hgz (s_aln C0 (d_X6_readDoor_8) hgz (s_callVN C0 hE (c_X9_isSound l) wg648 wn731 wg647 ws18 wg2 ⟨by decide, by decide⟩ (by decide +kernel) (c0 := 9) rfl ⟨by decide, by decide⟩ ⟨by decide, by decide⟩ (d_X6_readDoor_9) (fun x hx => (hno x hx).elim) ⟨by decide, by decide⟩ ⟨by decide, by decide⟩ (s_zeq C0 (d_X6_readDoor_12) (by decide) hgz hgz (fun _ _ _ h => h) (s_aln C0 (d_X6_readDoor_15) hgz (s_gi C0 (j := 8) (c0 := 6) rfl gX6 (by decide) rfl (by decide) wg112 (d_X6_readDoor_16) hgz (s_ic C0 (d_X6_readDoor_19) hgz (s_cge C0 (d_X6_readDoor_20) (by decide) hgz hgz (fun _ _ _ h => h) (s_aln C0 (d_X6_readDoor_23) hgz (s_gr C0 (j := 9) (c0 := 6) rfl gX6 (by decide) rfl rfl wg114 (d_X6_readDoor_24) hgz (s_aln C0 (d_X6_readDoor_27) hgz (s_gi C0 (j := 8) (c0 := 6) rfl gX6 (by decide) rfl (by decide) wg112 (d_X6_readDoor_28) hgz (s_iln C0 (d_X6_readDoor_31) hgz (s_iax C0 (d_X6_readDoor_32) hgz (s_aln C0 (d_X6_readDoor_33) hgz (s_dup C0 (d_X6_readDoor_34) hgz (s_gi C0 (j := 8) (c0 := 6) rfl gX6 (by decide) rfl (by decide) wg112 (d_X6_readDoor_35) hgz (s_ic C0 (d_X6_readDoor_38) hgz (s_add C0 (d_X6_readDoor_39) hgz (s_pi C0 (j := 8) (c0 := 6) rfl gX6 tyX6_ok nmX6 (by decide) rfl (by decide) rfl rfl wg112 (d_X6_readDoor_40) hgz (fun _ _ _ h => h))) (okn rfl)))))))))))) (okn rfl))))))))) (okn rfl) rfl) (okn rfl)),
  s_rv C0 hr (d_X6_readDoor_43) ⟨by decide, by decide⟩⟩
theorem c_X6_readDoor (l : Launch) : Ctr l yX6_readDoor cX6_readDoor 3 none 13 264 0 (fun sx => (nf G_X6_readDoor)) := ctr_of (by decide) gz gz ⟨rfl, rfl⟩ (fun p e s m args below meth c D ca ad sx sy A Q as M C0 hE hr hno hF => P_X6_readDoor (L_X6_readDoor C0 hE hr hno) hF)
theorem d_X9_hasMore_0 : decode cX9_hasMore 0 = .ok (.aload_n 0, 1) := by decide +kernel
theorem d_X9_hasMore_1 : decode cX9_hasMore 1 = .ok (.invokevirtual 40, 3) := by decide +kernel
theorem d_X9_hasMore_4 : decode cX9_hasMore 4 = .ok (.ifCond .ne 5, 3) := by decide +kernel
theorem d_X9_hasMore_7 : decode cX9_hasMore 7 = .ok (.iconst 0, 1) := by decide +kernel
theorem d_X9_hasMore_8 : decode cX9_hasMore 8 = .ok (.ireturn, 1) := by decide +kernel
theorem d_X9_hasMore_9 : decode cX9_hasMore 9 = .ok (.aload_n 0, 1) := by decide +kernel
theorem d_X9_hasMore_10 : decode cX9_hasMore 10 = .ok (.invokevirtual 44, 3) := by decide +kernel
theorem d_X9_hasMore_13 : decode cX9_hasMore 13 = .ok (.aload_n 0, 1) := by decide +kernel
theorem d_X9_hasMore_14 : decode cX9_hasMore 14 = .ok (.getfield 34, 3) := by decide +kernel
theorem d_X9_hasMore_17 : decode cX9_hasMore 17 = .ok (.aload_n 0, 1) := by decide +kernel
theorem d_X9_hasMore_18 : decode cX9_hasMore 18 = .ok (.getfield 31, 3) := by decide +kernel
theorem d_X9_hasMore_21 : decode cX9_hasMore 21 = .ok (.if_icmp .ge 7, 3) := by decide +kernel
theorem d_X9_hasMore_24 : decode cX9_hasMore 24 = .ok (.iconst 1, 1) := by decide +kernel
theorem d_X9_hasMore_25 : decode cX9_hasMore 25 = .ok (.goto 4, 3) := by decide +kernel
theorem d_X9_hasMore_28 : decode cX9_hasMore 28 = .ok (.iconst 0, 1) := by decide +kernel
theorem d_X9_hasMore_29 : decode cX9_hasMore 29 = .ok (.ireturn, 1) := by decide +kernel
set_option maxRecDepth 100000 in
theorem L_X9_hasMore {p : Program} {l : Launch} {e : Env} {s : State} {m : MethodId} {args : Array Value} {below : List Frame} {meth : Method} {c : Code} {D : va_G} {ca : Nat → ClassId} {ad sx sy : Nat → Nat} {A : Nat → Prop} {Q : QT} (C0 : CX p s m args meth c cX9_hasMore 1 yX9_hasMore.cls D ca ad A) (hE : EX sx sy A s s.heap) (hr : meth.sig.returnType = (some .boolean)) (hno : ∀ x ∈ c.exceptionTable.toList, False) : R_X9_hasMore (JW p l e { frames := 11, cells := 0, slots := 6 * 0, locals := 220 } s m args below meth c 1 D ca ad A (vx_MQ below (Qn D ca ad A Q) (Qx D ca ad A Q) args s 0 (6 * 0) A) gz gz true) Q := ⟨s_aln C0 (d_X9_hasMore_0) hgz (s_callV C0 hE (c_X9_isSound l) wg648 wg645 wg647 ws18 wg2 ⟨by decide, by decide⟩ (by decide +kernel) (c0 := 9) rfl ⟨by decide, by decide⟩ ⟨by decide, by decide⟩ (d_X9_hasMore_1) (fun x hx => (hno x hx).elim) ⟨by decide, by decide⟩ ⟨by decide, by decide⟩ (s_zne C0 (d_X9_hasMore_4) (by decide) hgz hgz (fun _ _ _ h => h) (s_ic C0 (d_X9_hasMore_7) hgz (s_rz C0 hr (d_X9_hasMore_8) ⟨by decide, by decide⟩) (okn rfl)))),
  s_aln C0 (d_X9_hasMore_9) hgz (s_callV C0 hE (c_X9_skipBlanks l) wg652 wg649 wg651 ws19 wg2 ⟨by decide, by decide⟩ (by decide +kernel) (c0 := 9) rfl ⟨by decide, by decide⟩ ⟨by decide, by decide⟩ (d_X9_hasMore_10) (fun x hx => (hno x hx).elim) ⟨by decide, by decide⟩ ⟨by decide, by decide⟩ (s_aln C0 (d_X9_hasMore_13) hgz (s_gi C0 (j := 3) (c0 := 9) rfl gX9 (by decide) rfl (by decide) wg43 (d_X9_hasMore_14) hgz (s_aln C0 (d_X9_hasMore_17) hgz (s_gi C0 (j := 2) (c0 := 9) rfl gX9 (by decide) rfl (by decide) wg42 (d_X9_hasMore_18) hgz (s_cge C0 (d_X9_hasMore_21) (by decide) hgz hgz (fun _ _ _ h => h) (s_ic C0 (d_X9_hasMore_24) hgz (s_goto C0 (tgt := 29) (d_X9_hasMore_25) (by decide) hgz (fun _ _ _ h => h)) (okn rfl)))))))),
  s_ic C0 (d_X9_hasMore_28) hgz (fun _ _ _ h => h) (okn rfl),
  s_rz C0 hr (d_X9_hasMore_29) ⟨by decide, by decide⟩⟩
theorem c_X9_hasMore (l : Launch) : Ctr l yX9_hasMore cX9_hasMore 1 (some .boolean) 11 220 0 (fun sx => (nf G_X9_hasMore)) := ctr_of (by decide) gz gz ⟨rfl, rfl⟩ (fun p e s m args below meth c D ca ad sx sy A Q as M C0 hE hr hno hF => P_X9_hasMore (L_X9_hasMore C0 hE hr hno) hF)
theorem wg131 : Cond.fieldLink "WeighedHall$Plan" 55 "WeighedHall$Plan" "law" "I" ∈ GT := gt_mem 251 (by decide +kernel) rfl
theorem d_X6_readLaw_0 : decode cX6_readLaw 0 = .ok (.aload_n 1, 1) := by decide +kernel
theorem d_X6_readLaw_1 : decode cX6_readLaw 1 = .ok (.iconst 0, 1) := by decide +kernel
theorem d_X6_readLaw_2 : decode cX6_readLaw 2 = .ok (.iconst 2, 1) := by decide +kernel
theorem d_X6_readLaw_3 : decode cX6_readLaw 3 = .ok (.invokevirtual 111, 3) := by decide +kernel
theorem d_X6_readLaw_6 : decode cX6_readLaw 6 = .ok (.istore_n 2, 1) := by decide +kernel
theorem d_X6_readLaw_7 : decode cX6_readLaw 7 = .ok (.aload_n 1, 1) := by decide +kernel
theorem d_X6_readLaw_8 : decode cX6_readLaw 8 = .ok (.invokevirtual 115, 3) := by decide +kernel
theorem d_X6_readLaw_11 : decode cX6_readLaw 11 = .ok (.ifCond .eq 8, 3) := by decide +kernel
theorem d_X6_readLaw_14 : decode cX6_readLaw 14 = .ok (.aload_n 0, 1) := by decide +kernel
theorem d_X6_readLaw_15 : decode cX6_readLaw 15 = .ok (.iload_n 2, 1) := by decide +kernel
theorem d_X6_readLaw_16 : decode cX6_readLaw 16 = .ok (.putfield 55, 3) := by decide +kernel
theorem d_X6_readLaw_19 : decode cX6_readLaw 19 = .ok (.return_, 1) := by decide +kernel
set_option maxRecDepth 100000 in
theorem L_X6_readLaw {p : Program} {l : Launch} {e : Env} {s : State} {m : MethodId} {args : Array Value} {below : List Frame} {meth : Method} {c : Code} {D : va_G} {ca : Nat → ClassId} {ad sx sy : Nat → Nat} {A : Nat → Prop} {Q : QT} (C0 : CX p s m args meth c cX6_readLaw 3 yX6_readLaw.cls D ca ad A) (hE : EX sx sy A s s.heap) (hr : meth.sig.returnType = none) (hno : ∀ x ∈ c.exceptionTable.toList, False) : R_X6_readLaw (JW p l e { frames := 13, cells := 0, slots := 6 * 0, locals := 264 } s m args below meth c 3 D ca ad A (vx_MQ below (Qn D ca ad A Q) (Qx D ca ad A Q) args s 0 (6 * 0) A) gz gz true) Q := ⟨s_aln C0 (d_X6_readLaw_0) hgz (s_ic C0 (d_X6_readLaw_1) hgz (s_ic C0 (d_X6_readLaw_2) hgz (s_callVN C0 hE (c_X9_readNumber l) wg728 wn725 wg727 ws25 wg2 ⟨by decide, by decide⟩ (by decide +kernel) (c0 := 9) rfl ⟨by decide, by decide⟩ ⟨by decide, by decide⟩ (d_X6_readLaw_3) (fun x hx => (hno x hx).elim) ⟨by decide, by decide⟩ ⟨by decide, by decide⟩ (s_isn C0 (d_X6_readLaw_6) hgz (s_aln C0 (d_X6_readLaw_7) hgz (s_callVN C0 hE (c_X9_isSound l) wg648 wn731 wg647 ws18 wg2 ⟨by decide, by decide⟩ (by decide +kernel) (c0 := 9) rfl ⟨by decide, by decide⟩ ⟨by decide, by decide⟩ (d_X6_readLaw_8) (fun x hx => (hno x hx).elim) ⟨by decide, by decide⟩ ⟨by decide, by decide⟩ (s_zeq C0 (d_X6_readLaw_11) (by decide) hgz hgz (fun _ _ _ h => h) (s_aln C0 (d_X6_readLaw_14) hgz (s_iln C0 (d_X6_readLaw_15) hgz (s_pi C0 (j := 14) (c0 := 6) rfl gX6 tyX6_ok nmX6 (by decide) rfl (by decide) rfl rfl wg131 (d_X6_readLaw_16) hgz (fun _ _ _ h => h))))))))) (okn rfl)) (okn rfl)),
  s_rv C0 hr (d_X6_readLaw_19) ⟨by decide, by decide⟩⟩
theorem c_X6_readLaw (l : Launch) : Ctr l yX6_readLaw cX6_readLaw 3 none 13 264 0 (fun sx => (nf G_X6_readLaw)) := ctr_of (by decide) gz gz ⟨rfl, rfl⟩ (fun p e s m args below meth c D ca ad sx sy A Q as M C0 hE hr hno hF => P_X6_readLaw (L_X6_readLaw C0 hE hr hno) hF)
theorem wg128 : Cond.fieldLink "WeighedHall$Plan" 39 "WeighedHall$Plan" "con" "[I" ∈ GT := gt_mem 248 (by decide +kernel) rfl
theorem wg124 : Cond.fieldLink "WeighedHall$Plan" 36 "WeighedHall$Plan" "pro" "[I" ∈ GT := gt_mem 244 (by decide +kernel) rfl
theorem wg119 : Cond.fieldLink "WeighedHall$Plan" 33 "WeighedHall$Plan" "minute" "[I" ∈ GT := gt_mem 239 (by decide +kernel) rfl
theorem d_X6_readMotion_0 : decode cX6_readMotion 0 = .ok (.aload_n 1, 1) := by decide +kernel
theorem d_X6_readMotion_1 : decode cX6_readMotion 1 = .ok (.iconst 0, 1) := by decide +kernel
theorem d_X6_readMotion_2 : decode cX6_readMotion 2 = .ok (.bipush 119, 2) := by decide +kernel
theorem d_X6_readMotion_4 : decode cX6_readMotion 4 = .ok (.invokevirtual 111, 3) := by decide +kernel
theorem d_X6_readMotion_7 : decode cX6_readMotion 7 = .ok (.istore_n 2, 1) := by decide +kernel
theorem d_X6_readMotion_8 : decode cX6_readMotion 8 = .ok (.aload_n 1, 1) := by decide +kernel
theorem d_X6_readMotion_9 : decode cX6_readMotion 9 = .ok (.iconst 0, 1) := by decide +kernel
theorem d_X6_readMotion_10 : decode cX6_readMotion 10 = .ok (.aload_n 0, 1) := by decide +kernel
theorem d_X6_readMotion_11 : decode cX6_readMotion 11 = .ok (.invokevirtual 118, 3) := by decide +kernel
theorem d_X6_readMotion_14 : decode cX6_readMotion 14 = .ok (.invokevirtual 111, 3) := by decide +kernel
theorem d_X6_readMotion_17 : decode cX6_readMotion 17 = .ok (.istore_n 3, 1) := by decide +kernel
theorem d_X6_readMotion_18 : decode cX6_readMotion 18 = .ok (.aload_n 1, 1) := by decide +kernel
theorem d_X6_readMotion_19 : decode cX6_readMotion 19 = .ok (.iconst 0, 1) := by decide +kernel
theorem d_X6_readMotion_20 : decode cX6_readMotion 20 = .ok (.aload_n 0, 1) := by decide +kernel
theorem d_X6_readMotion_21 : decode cX6_readMotion 21 = .ok (.invokevirtual 118, 3) := by decide +kernel
theorem d_X6_readMotion_24 : decode cX6_readMotion 24 = .ok (.invokevirtual 111, 3) := by decide +kernel
theorem d_X6_readMotion_27 : decode cX6_readMotion 27 = .ok (.istore 4, 2) := by decide +kernel
theorem d_X6_readMotion_29 : decode cX6_readMotion 29 = .ok (.aload_n 1, 1) := by decide +kernel
theorem d_X6_readMotion_30 : decode cX6_readMotion 30 = .ok (.invokevirtual 115, 3) := by decide +kernel
theorem d_X6_readMotion_33 : decode cX6_readMotion 33 = .ok (.ifCond .eq 15, 3) := by decide +kernel
theorem d_X6_readMotion_36 : decode cX6_readMotion 36 = .ok (.iload_n 3, 1) := by decide +kernel
theorem d_X6_readMotion_37 : decode cX6_readMotion 37 = .ok (.iload 4, 2) := by decide +kernel
theorem d_X6_readMotion_39 : decode cX6_readMotion 39 = .ok (.iand, 1) := by decide +kernel
theorem d_X6_readMotion_40 : decode cX6_readMotion 40 = .ok (.ifCond .eq 8, 3) := by decide +kernel
theorem d_X6_readMotion_43 : decode cX6_readMotion 43 = .ok (.aload_n 1, 1) := by decide +kernel
theorem d_X6_readMotion_44 : decode cX6_readMotion 44 = .ok (.iconst 2, 1) := by decide +kernel
theorem d_X6_readMotion_45 : decode cX6_readMotion 45 = .ok (.invokevirtual 107, 3) := by decide +kernel
theorem d_X6_readMotion_48 : decode cX6_readMotion 48 = .ok (.aload_n 1, 1) := by decide +kernel
theorem d_X6_readMotion_49 : decode cX6_readMotion 49 = .ok (.invokevirtual 115, 3) := by decide +kernel
theorem d_X6_readMotion_52 : decode cX6_readMotion 52 = .ok (.ifCond .eq 53, 3) := by decide +kernel
theorem d_X6_readMotion_55 : decode cX6_readMotion 55 = .ok (.aload_n 0, 1) := by decide +kernel
theorem d_X6_readMotion_56 : decode cX6_readMotion 56 = .ok (.getfield 52, 3) := by decide +kernel
theorem d_X6_readMotion_59 : decode cX6_readMotion 59 = .ok (.bipush 8, 2) := by decide +kernel
theorem d_X6_readMotion_61 : decode cX6_readMotion 61 = .ok (.if_icmp .ge 44, 3) := by decide +kernel
theorem d_X6_readMotion_64 : decode cX6_readMotion 64 = .ok (.aload_n 0, 1) := by decide +kernel
theorem d_X6_readMotion_65 : decode cX6_readMotion 65 = .ok (.getfield 33, 3) := by decide +kernel
theorem d_X6_readMotion_68 : decode cX6_readMotion 68 = .ok (.aload_n 0, 1) := by decide +kernel
theorem d_X6_readMotion_69 : decode cX6_readMotion 69 = .ok (.getfield 52, 3) := by decide +kernel
theorem d_X6_readMotion_72 : decode cX6_readMotion 72 = .ok (.iload_n 2, 1) := by decide +kernel
theorem d_X6_readMotion_73 : decode cX6_readMotion 73 = .ok (.iastore, 1) := by decide +kernel
theorem d_X6_readMotion_74 : decode cX6_readMotion 74 = .ok (.aload_n 0, 1) := by decide +kernel
theorem d_X6_readMotion_75 : decode cX6_readMotion 75 = .ok (.getfield 36, 3) := by decide +kernel
theorem d_X6_readMotion_78 : decode cX6_readMotion 78 = .ok (.aload_n 0, 1) := by decide +kernel
theorem d_X6_readMotion_79 : decode cX6_readMotion 79 = .ok (.getfield 52, 3) := by decide +kernel
theorem d_X6_readMotion_82 : decode cX6_readMotion 82 = .ok (.iload_n 3, 1) := by decide +kernel
theorem d_X6_readMotion_83 : decode cX6_readMotion 83 = .ok (.iastore, 1) := by decide +kernel
theorem d_X6_readMotion_84 : decode cX6_readMotion 84 = .ok (.aload_n 0, 1) := by decide +kernel
theorem d_X6_readMotion_85 : decode cX6_readMotion 85 = .ok (.getfield 39, 3) := by decide +kernel
theorem d_X6_readMotion_88 : decode cX6_readMotion 88 = .ok (.aload_n 0, 1) := by decide +kernel
theorem d_X6_readMotion_89 : decode cX6_readMotion 89 = .ok (.getfield 52, 3) := by decide +kernel
theorem d_X6_readMotion_92 : decode cX6_readMotion 92 = .ok (.iload 4, 2) := by decide +kernel
theorem d_X6_readMotion_94 : decode cX6_readMotion 94 = .ok (.iastore, 1) := by decide +kernel
theorem d_X6_readMotion_95 : decode cX6_readMotion 95 = .ok (.aload_n 0, 1) := by decide +kernel
theorem d_X6_readMotion_96 : decode cX6_readMotion 96 = .ok (.dup, 1) := by decide +kernel
theorem d_X6_readMotion_97 : decode cX6_readMotion 97 = .ok (.getfield 52, 3) := by decide +kernel
theorem d_X6_readMotion_100 : decode cX6_readMotion 100 = .ok (.iconst 1, 1) := by decide +kernel
theorem d_X6_readMotion_101 : decode cX6_readMotion 101 = .ok (.iadd, 1) := by decide +kernel
theorem d_X6_readMotion_102 : decode cX6_readMotion 102 = .ok (.putfield 52, 3) := by decide +kernel
theorem d_X6_readMotion_105 : decode cX6_readMotion 105 = .ok (.return_, 1) := by decide +kernel
set_option maxRecDepth 100000 in
theorem L_X6_readMotion {p : Program} {l : Launch} {e : Env} {s : State} {m : MethodId} {args : Array Value} {below : List Frame} {meth : Method} {c : Code} {D : va_G} {ca : Nat → ClassId} {ad sx sy : Nat → Nat} {A : Nat → Prop} {Q : QT} (C0 : CX p s m args meth c cX6_readMotion 5 yX6_readMotion.cls D ca ad A) (hE : EX sx sy A s s.heap) (hr : meth.sig.returnType = none) (hno : ∀ x ∈ c.exceptionTable.toList, False) : R_X6_readMotion (JW p l e { frames := 13, cells := 0, slots := 6 * 0, locals := 264 } s m args below meth c 5 D ca ad A (vx_MQ below (Qn D ca ad A Q) (Qx D ca ad A Q) args s 0 (6 * 0) A) gz gz true) Q := ⟨s_aln C0 (d_X6_readMotion_0) hgz (s_ic C0 (d_X6_readMotion_1) hgz (s_bi C0 (d_X6_readMotion_2) hgz (s_callVN C0 hE (c_X9_readNumber l) wg728 wn725 wg727 ws25 wg2 ⟨by decide, by decide⟩ (by decide +kernel) (c0 := 9) rfl ⟨by decide, by decide⟩ ⟨by decide, by decide⟩ (d_X6_readMotion_4) (fun x hx => (hno x hx).elim) ⟨by decide, by decide⟩ ⟨by decide, by decide⟩ (s_isn C0 (d_X6_readMotion_7) hgz (s_aln C0 (d_X6_readMotion_8) hgz (s_ic C0 (d_X6_readMotion_9) hgz (s_aln C0 (d_X6_readMotion_10) hgz (s_callV C0 hE (c_X6_allPersons l) wg751 wg748 wg750 ws29 wg3 ⟨by decide, by decide⟩ (by decide +kernel) (c0 := 6) rfl ⟨by decide, by decide⟩ ⟨by decide, by decide⟩ (d_X6_readMotion_11) (fun x hx => (hno x hx).elim) ⟨by decide, by decide⟩ ⟨by decide, by decide⟩ (s_callVN C0 hE (c_X9_readNumber l) wg728 wn725 wg727 ws25 wg2 ⟨by decide, by decide⟩ (by decide +kernel) (c0 := 9) rfl ⟨by decide, by decide⟩ ⟨by decide, by decide⟩ (d_X6_readMotion_14) (fun x hx => (hno x hx).elim) ⟨by decide, by decide⟩ ⟨by decide, by decide⟩ (s_isn C0 (d_X6_readMotion_17) hgz (s_aln C0 (d_X6_readMotion_18) hgz (s_ic C0 (d_X6_readMotion_19) hgz (s_aln C0 (d_X6_readMotion_20) hgz (s_callV C0 hE (c_X6_allPersons l) wg751 wg748 wg750 ws29 wg3 ⟨by decide, by decide⟩ (by decide +kernel) (c0 := 6) rfl ⟨by decide, by decide⟩ ⟨by decide, by decide⟩ (d_X6_readMotion_21) (fun x hx => (hno x hx).elim) ⟨by decide, by decide⟩ ⟨by decide, by decide⟩ (s_callVN C0 hE (c_X9_readNumber l) wg728 wn725 wg727 ws25 wg2 ⟨by decide, by decide⟩ (by decide +kernel) (c0 := 9) rfl ⟨by decide, by decide⟩ ⟨by decide, by decide⟩ (d_X6_readMotion_24) (fun x hx => (hno x hx).elim) ⟨by decide, by decide⟩ ⟨by decide, by decide⟩ (s_is C0 (d_X6_readMotion_27) hgz (s_aln C0 (d_X6_readMotion_29) hgz (s_callVN C0 hE (c_X9_isSound l) wg648 wn731 wg647 ws18 wg2 ⟨by decide, by decide⟩ (by decide +kernel) (c0 := 9) rfl ⟨by decide, by decide⟩ ⟨by decide, by decide⟩ (d_X6_readMotion_30) (fun x hx => (hno x hx).elim) ⟨by decide, by decide⟩ ⟨by decide, by decide⟩ (s_zeq C0 (d_X6_readMotion_33) (by decide) hgz hgz (fun _ _ _ h => h) (s_iln C0 (d_X6_readMotion_36) hgz (s_il C0 (d_X6_readMotion_37) hgz (s_and C0 (d_X6_readMotion_39) hgz (s_zeq C0 (d_X6_readMotion_40) (by decide) hgz hgz (fun _ _ _ h => h) (s_aln C0 (d_X6_readMotion_43) hgz (s_ic C0 (d_X6_readMotion_44) hgz (s_callVN C0 hE (c_X9_refuse l) wg720 wn717 wg719 ws23 wg2 ⟨by decide, by decide⟩ (by decide +kernel) (c0 := 9) rfl ⟨by decide, by decide⟩ ⟨by decide, by decide⟩ (d_X6_readMotion_45) (fun x hx => (hno x hx).elim) ⟨by decide, by decide⟩ ⟨by decide, by decide⟩ (fun _ _ _ h => h)) (okn rfl)))))))))))))) (okn rfl))))))) (okn rfl))))) (okn rfl) rfl) (okn rfl)),
  s_aln C0 (d_X6_readMotion_48) hgz (s_callVN C0 hE (c_X9_isSound l) wg648 wn731 wg647 ws18 wg2 ⟨by decide, by decide⟩ (by decide +kernel) (c0 := 9) rfl ⟨by decide, by decide⟩ ⟨by decide, by decide⟩ (d_X6_readMotion_49) (fun x hx => (hno x hx).elim) ⟨by decide, by decide⟩ ⟨by decide, by decide⟩ (s_zeq C0 (d_X6_readMotion_52) (by decide) hgz hgz (fun _ _ _ h => h) (s_aln C0 (d_X6_readMotion_55) hgz (s_gi C0 (j := 10) (c0 := 6) rfl gX6 (by decide) rfl (by decide) wg115 (d_X6_readMotion_56) hgz (s_bi C0 (d_X6_readMotion_59) hgz (s_cge C0 (d_X6_readMotion_61) (by decide) hgz hgz (fun _ _ _ h => h) (s_aln C0 (d_X6_readMotion_64) hgz (s_gr C0 (j := 11) (c0 := 6) rfl gX6 (by decide) rfl rfl wg119 (d_X6_readMotion_65) hgz (s_aln C0 (d_X6_readMotion_68) hgz (s_gi C0 (j := 10) (c0 := 6) rfl gX6 (by decide) rfl (by decide) wg115 (d_X6_readMotion_69) hgz (s_iln C0 (d_X6_readMotion_72) hgz (s_iax C0 (d_X6_readMotion_73) hgz (s_aln C0 (d_X6_readMotion_74) hgz (s_gr C0 (j := 12) (c0 := 6) rfl gX6 (by decide) rfl rfl wg124 (d_X6_readMotion_75) hgz (s_aln C0 (d_X6_readMotion_78) hgz (s_gi C0 (j := 10) (c0 := 6) rfl gX6 (by decide) rfl (by decide) wg115 (d_X6_readMotion_79) hgz (s_iln C0 (d_X6_readMotion_82) hgz (s_iax C0 (d_X6_readMotion_83) hgz (s_aln C0 (d_X6_readMotion_84) hgz (s_gr C0 (j := 13) (c0 := 6) rfl gX6 (by decide) rfl rfl wg128 (d_X6_readMotion_85) hgz (s_aln C0 (d_X6_readMotion_88) hgz (s_gi C0 (j := 10) (c0 := 6) rfl gX6 (by decide) rfl (by decide) wg115 (d_X6_readMotion_89) hgz (s_il C0 (d_X6_readMotion_92) hgz (s_iax C0 (d_X6_readMotion_94) hgz (s_aln C0 (d_X6_readMotion_95) hgz (s_dup C0 (d_X6_readMotion_96) hgz (s_gi C0 (j := 10) (c0 := 6) rfl gX6 (by decide) rfl (by decide) wg115 (d_X6_readMotion_97) hgz (s_ic C0 (d_X6_readMotion_100) hgz (s_add C0 (d_X6_readMotion_101) hgz (s_pi C0 (j := 10) (c0 := 6) rfl gX6 tyX6_ok nmX6 (by decide) rfl (by decide) rfl rfl wg115 (d_X6_readMotion_102) hgz (fun _ _ _ h => h))) (okn rfl)))))))))))))))))))))))) (okn rfl) rfl))))),
  s_rv C0 hr (d_X6_readMotion_105) ⟨by decide, by decide⟩⟩
theorem c_X6_readMotion (l : Launch) : Ctr l yX6_readMotion cX6_readMotion 5 none 13 264 0 (fun sx => (nf G_X6_readMotion)) := ctr_of (by decide) gz gz ⟨rfl, rfl⟩ (fun p e s m args below meth c D ca ad sx sy A Q as M C0 hE hr hno hF => P_X6_readMotion (L_X6_readMotion C0 hE hr hno) hF)
theorem wg80 : Cond.fieldLink "WeighedHall$Plan" 15 "WeighedHall$Plan" "arm" "[I" ∈ GT := gt_mem 200 (by decide +kernel) rfl
theorem wg77 : Cond.fieldLink "WeighedHall$Plan" 9 "WeighedHall$Plan" "party" "[I" ∈ GT := gt_mem 197 (by decide +kernel) rfl
theorem d_X6_readPerson_0 : decode cX6_readPerson 0 = .ok (.aload_n 1, 1) := by decide +kernel
theorem d_X6_readPerson_1 : decode cX6_readPerson 1 = .ok (.iconst 0, 1) := by decide +kernel
theorem d_X6_readPerson_2 : decode cX6_readPerson 2 = .ok (.iconst 3, 1) := by decide +kernel
theorem d_X6_readPerson_3 : decode cX6_readPerson 3 = .ok (.invokevirtual 111, 3) := by decide +kernel
theorem d_X6_readPerson_6 : decode cX6_readPerson 6 = .ok (.istore_n 2, 1) := by decide +kernel
theorem d_X6_readPerson_7 : decode cX6_readPerson 7 = .ok (.aload_n 1, 1) := by decide +kernel
theorem d_X6_readPerson_8 : decode cX6_readPerson 8 = .ok (.iconst 1, 1) := by decide +kernel
theorem d_X6_readPerson_9 : decode cX6_readPerson 9 = .ok (.bipush 99, 2) := by decide +kernel
theorem d_X6_readPerson_11 : decode cX6_readPerson 11 = .ok (.invokevirtual 111, 3) := by decide +kernel
theorem d_X6_readPerson_14 : decode cX6_readPerson 14 = .ok (.istore_n 3, 1) := by decide +kernel
theorem d_X6_readPerson_15 : decode cX6_readPerson 15 = .ok (.aload_n 1, 1) := by decide +kernel
theorem d_X6_readPerson_16 : decode cX6_readPerson 16 = .ok (.invokevirtual 115, 3) := by decide +kernel
theorem d_X6_readPerson_19 : decode cX6_readPerson 19 = .ok (.ifCond .eq 42, 3) := by decide +kernel
theorem d_X6_readPerson_22 : decode cX6_readPerson 22 = .ok (.aload_n 0, 1) := by decide +kernel
theorem d_X6_readPerson_23 : decode cX6_readPerson 23 = .ok (.getfield 42, 3) := by decide +kernel
theorem d_X6_readPerson_26 : decode cX6_readPerson 26 = .ok (.bipush 10, 2) := by decide +kernel
theorem d_X6_readPerson_28 : decode cX6_readPerson 28 = .ok (.if_icmp .ge 33, 3) := by decide +kernel
theorem d_X6_readPerson_31 : decode cX6_readPerson 31 = .ok (.aload_n 0, 1) := by decide +kernel
theorem d_X6_readPerson_32 : decode cX6_readPerson 32 = .ok (.getfield 9, 3) := by decide +kernel
theorem d_X6_readPerson_35 : decode cX6_readPerson 35 = .ok (.aload_n 0, 1) := by decide +kernel
theorem d_X6_readPerson_36 : decode cX6_readPerson 36 = .ok (.getfield 42, 3) := by decide +kernel
theorem d_X6_readPerson_39 : decode cX6_readPerson 39 = .ok (.iload_n 2, 1) := by decide +kernel
theorem d_X6_readPerson_40 : decode cX6_readPerson 40 = .ok (.iastore, 1) := by decide +kernel
theorem d_X6_readPerson_41 : decode cX6_readPerson 41 = .ok (.aload_n 0, 1) := by decide +kernel
theorem d_X6_readPerson_42 : decode cX6_readPerson 42 = .ok (.getfield 15, 3) := by decide +kernel
theorem d_X6_readPerson_45 : decode cX6_readPerson 45 = .ok (.aload_n 0, 1) := by decide +kernel
theorem d_X6_readPerson_46 : decode cX6_readPerson 46 = .ok (.getfield 42, 3) := by decide +kernel
theorem d_X6_readPerson_49 : decode cX6_readPerson 49 = .ok (.iload_n 3, 1) := by decide +kernel
theorem d_X6_readPerson_50 : decode cX6_readPerson 50 = .ok (.iastore, 1) := by decide +kernel
theorem d_X6_readPerson_51 : decode cX6_readPerson 51 = .ok (.aload_n 0, 1) := by decide +kernel
theorem d_X6_readPerson_52 : decode cX6_readPerson 52 = .ok (.dup, 1) := by decide +kernel
theorem d_X6_readPerson_53 : decode cX6_readPerson 53 = .ok (.getfield 42, 3) := by decide +kernel
theorem d_X6_readPerson_56 : decode cX6_readPerson 56 = .ok (.iconst 1, 1) := by decide +kernel
theorem d_X6_readPerson_57 : decode cX6_readPerson 57 = .ok (.iadd, 1) := by decide +kernel
theorem d_X6_readPerson_58 : decode cX6_readPerson 58 = .ok (.putfield 42, 3) := by decide +kernel
theorem d_X6_readPerson_61 : decode cX6_readPerson 61 = .ok (.return_, 1) := by decide +kernel
set_option maxRecDepth 100000 in
theorem L_X6_readPerson {p : Program} {l : Launch} {e : Env} {s : State} {m : MethodId} {args : Array Value} {below : List Frame} {meth : Method} {c : Code} {D : va_G} {ca : Nat → ClassId} {ad sx sy : Nat → Nat} {A : Nat → Prop} {Q : QT} (C0 : CX p s m args meth c cX6_readPerson 4 yX6_readPerson.cls D ca ad A) (hE : EX sx sy A s s.heap) (hr : meth.sig.returnType = none) (hno : ∀ x ∈ c.exceptionTable.toList, False) : R_X6_readPerson (JW p l e { frames := 13, cells := 0, slots := 6 * 0, locals := 264 } s m args below meth c 4 D ca ad A (vx_MQ below (Qn D ca ad A Q) (Qx D ca ad A Q) args s 0 (6 * 0) A) gz gz true) Q := ⟨s_aln C0 (d_X6_readPerson_0) hgz (s_ic C0 (d_X6_readPerson_1) hgz (s_ic C0 (d_X6_readPerson_2) hgz (s_callVN C0 hE (c_X9_readNumber l) wg728 wn725 wg727 ws25 wg2 ⟨by decide, by decide⟩ (by decide +kernel) (c0 := 9) rfl ⟨by decide, by decide⟩ ⟨by decide, by decide⟩ (d_X6_readPerson_3) (fun x hx => (hno x hx).elim) ⟨by decide, by decide⟩ ⟨by decide, by decide⟩ (s_isn C0 (d_X6_readPerson_6) hgz (s_aln C0 (d_X6_readPerson_7) hgz (s_ic C0 (d_X6_readPerson_8) hgz (s_bi C0 (d_X6_readPerson_9) hgz (s_callVN C0 hE (c_X9_readNumber l) wg728 wn725 wg727 ws25 wg2 ⟨by decide, by decide⟩ (by decide +kernel) (c0 := 9) rfl ⟨by decide, by decide⟩ ⟨by decide, by decide⟩ (d_X6_readPerson_11) (fun x hx => (hno x hx).elim) ⟨by decide, by decide⟩ ⟨by decide, by decide⟩ (s_isn C0 (d_X6_readPerson_14) hgz (s_aln C0 (d_X6_readPerson_15) hgz (s_callVN C0 hE (c_X9_isSound l) wg648 wn731 wg647 ws18 wg2 ⟨by decide, by decide⟩ (by decide +kernel) (c0 := 9) rfl ⟨by decide, by decide⟩ ⟨by decide, by decide⟩ (d_X6_readPerson_16) (fun x hx => (hno x hx).elim) ⟨by decide, by decide⟩ ⟨by decide, by decide⟩ (s_zeq C0 (d_X6_readPerson_19) (by decide) hgz hgz (fun _ _ _ h => h) (s_aln C0 (d_X6_readPerson_22) hgz (s_gi C0 (j := 0) (c0 := 6) rfl gX6 (by decide) rfl (by decide) wg71 (d_X6_readPerson_23) hgz (s_bi C0 (d_X6_readPerson_26) hgz (s_cge C0 (d_X6_readPerson_28) (by decide) hgz hgz (fun _ _ _ h => h) (s_aln C0 (d_X6_readPerson_31) hgz (s_gr C0 (j := 1) (c0 := 6) rfl gX6 (by decide) rfl rfl wg77 (d_X6_readPerson_32) hgz (s_aln C0 (d_X6_readPerson_35) hgz (s_gi C0 (j := 0) (c0 := 6) rfl gX6 (by decide) rfl (by decide) wg71 (d_X6_readPerson_36) hgz (s_iln C0 (d_X6_readPerson_39) hgz (s_iax C0 (d_X6_readPerson_40) hgz (s_aln C0 (d_X6_readPerson_41) hgz (s_gr C0 (j := 2) (c0 := 6) rfl gX6 (by decide) rfl rfl wg80 (d_X6_readPerson_42) hgz (s_aln C0 (d_X6_readPerson_45) hgz (s_gi C0 (j := 0) (c0 := 6) rfl gX6 (by decide) rfl (by decide) wg71 (d_X6_readPerson_46) hgz (s_iln C0 (d_X6_readPerson_49) hgz (s_iax C0 (d_X6_readPerson_50) hgz (s_aln C0 (d_X6_readPerson_51) hgz (s_dup C0 (d_X6_readPerson_52) hgz (s_gi C0 (j := 0) (c0 := 6) rfl gX6 (by decide) rfl (by decide) wg71 (d_X6_readPerson_53) hgz (s_ic C0 (d_X6_readPerson_56) hgz (s_add C0 (d_X6_readPerson_57) hgz (s_pi C0 (j := 0) (c0 := 6) rfl gX6 tyX6_ok nmX6 (by decide) rfl (by decide) rfl rfl wg71 (d_X6_readPerson_58) hgz (fun _ _ _ h => h))) (okn rfl)))))))))))))))))) (okn rfl) rfl)))))))) (okn rfl) rfl) (okn rfl))))) (okn rfl)) (okn rfl)),
  s_rv C0 hr (d_X6_readPerson_61) ⟨by decide, by decide⟩⟩
theorem c_X6_readPerson (l : Launch) : Ctr l yX6_readPerson cX6_readPerson 4 none 13 264 0 (fun sx => (nf G_X6_readPerson)) := ctr_of (by decide) gz gz ⟨rfl, rfl⟩ (fun p e s m args below meth c D ca ad sx sy A Q as M C0 hE hr hno hF => P_X6_readPerson (L_X6_readPerson C0 hE hr hno) hF)
theorem d_X6_readThing_0 : decode cX6_readThing 0 = .ok (.aload_n 1, 1) := by decide +kernel
theorem d_X6_readThing_1 : decode cX6_readThing 1 = .ok (.iconst 0, 1) := by decide +kernel
theorem d_X6_readThing_2 : decode cX6_readThing 2 = .ok (.aload_n 0, 1) := by decide +kernel
theorem d_X6_readThing_3 : decode cX6_readThing 3 = .ok (.getfield 42, 3) := by decide +kernel
theorem d_X6_readThing_6 : decode cX6_readThing 6 = .ok (.iconst 1, 1) := by decide +kernel
theorem d_X6_readThing_7 : decode cX6_readThing 7 = .ok (.isub, 1) := by decide +kernel
theorem d_X6_readThing_8 : decode cX6_readThing 8 = .ok (.invokevirtual 111, 3) := by decide +kernel
theorem d_X6_readThing_11 : decode cX6_readThing 11 = .ok (.istore_n 3, 1) := by decide +kernel
theorem d_X6_readThing_12 : decode cX6_readThing 12 = .ok (.aload_n 1, 1) := by decide +kernel
theorem d_X6_readThing_13 : decode cX6_readThing 13 = .ok (.iconst 1, 1) := by decide +kernel
theorem d_X6_readThing_14 : decode cX6_readThing 14 = .ok (.bipush 99, 2) := by decide +kernel
theorem d_X6_readThing_16 : decode cX6_readThing 16 = .ok (.invokevirtual 111, 3) := by decide +kernel
theorem d_X6_readThing_19 : decode cX6_readThing 19 = .ok (.istore 4, 2) := by decide +kernel
theorem d_X6_readThing_21 : decode cX6_readThing 21 = .ok (.iload_n 2, 1) := by decide +kernel
theorem d_X6_readThing_22 : decode cX6_readThing 22 = .ok (.ifCond .eq 17, 3) := by decide +kernel
theorem d_X6_readThing_25 : decode cX6_readThing 25 = .ok (.aload_n 1, 1) := by decide +kernel
theorem d_X6_readThing_26 : decode cX6_readThing 26 = .ok (.iconst 0, 1) := by decide +kernel
theorem d_X6_readThing_27 : decode cX6_readThing 27 = .ok (.aload_n 0, 1) := by decide +kernel
theorem d_X6_readThing_28 : decode cX6_readThing 28 = .ok (.getfield 49, 3) := by decide +kernel
theorem d_X6_readThing_31 : decode cX6_readThing 31 = .ok (.iconst 1, 1) := by decide +kernel
theorem d_X6_readThing_32 : decode cX6_readThing 32 = .ok (.isub, 1) := by decide +kernel
theorem d_X6_readThing_33 : decode cX6_readThing 33 = .ok (.invokevirtual 111, 3) := by decide +kernel
theorem d_X6_readThing_36 : decode cX6_readThing 36 = .ok (.goto 4, 3) := by decide +kernel
theorem d_X6_readThing_39 : decode cX6_readThing 39 = .ok (.iconst (-1), 1) := by decide +kernel
theorem d_X6_readThing_40 : decode cX6_readThing 40 = .ok (.istore 5, 2) := by decide +kernel
theorem d_X6_readThing_42 : decode cX6_readThing 42 = .ok (.iload_n 2, 1) := by decide +kernel
theorem d_X6_readThing_43 : decode cX6_readThing 43 = .ok (.ifCond .eq 13, 3) := by decide +kernel
theorem d_X6_readThing_46 : decode cX6_readThing 46 = .ok (.aload_n 1, 1) := by decide +kernel
theorem d_X6_readThing_47 : decode cX6_readThing 47 = .ok (.iconst 0, 1) := by decide +kernel
theorem d_X6_readThing_48 : decode cX6_readThing 48 = .ok (.bipush 99, 2) := by decide +kernel
theorem d_X6_readThing_50 : decode cX6_readThing 50 = .ok (.invokevirtual 111, 3) := by decide +kernel
theorem d_X6_readThing_53 : decode cX6_readThing 53 = .ok (.goto 4, 3) := by decide +kernel
theorem d_X6_readThing_56 : decode cX6_readThing 56 = .ok (.iconst 0, 1) := by decide +kernel
theorem d_X6_readThing_57 : decode cX6_readThing 57 = .ok (.istore 6, 2) := by decide +kernel
theorem d_X6_readThing_59 : decode cX6_readThing 59 = .ok (.aload_n 1, 1) := by decide +kernel
theorem d_X6_readThing_60 : decode cX6_readThing 60 = .ok (.invokevirtual 115, 3) := by decide +kernel
theorem d_X6_readThing_63 : decode cX6_readThing 63 = .ok (.ifCond .eq 65, 3) := by decide +kernel
theorem d_X6_readThing_66 : decode cX6_readThing 66 = .ok (.aload_n 0, 1) := by decide +kernel
theorem d_X6_readThing_67 : decode cX6_readThing 67 = .ok (.getfield 46, 3) := by decide +kernel
theorem d_X6_readThing_70 : decode cX6_readThing 70 = .ok (.bipush 14, 2) := by decide +kernel
theorem d_X6_readThing_72 : decode cX6_readThing 72 = .ok (.if_icmp .ge 56, 3) := by decide +kernel
theorem d_X6_readThing_75 : decode cX6_readThing 75 = .ok (.aload_n 0, 1) := by decide +kernel
theorem d_X6_readThing_76 : decode cX6_readThing 76 = .ok (.getfield 18, 3) := by decide +kernel
theorem d_X6_readThing_79 : decode cX6_readThing 79 = .ok (.aload_n 0, 1) := by decide +kernel
theorem d_X6_readThing_80 : decode cX6_readThing 80 = .ok (.getfield 46, 3) := by decide +kernel
theorem d_X6_readThing_83 : decode cX6_readThing 83 = .ok (.iload_n 3, 1) := by decide +kernel
theorem d_X6_readThing_84 : decode cX6_readThing 84 = .ok (.iastore, 1) := by decide +kernel
theorem d_X6_readThing_85 : decode cX6_readThing 85 = .ok (.aload_n 0, 1) := by decide +kernel
theorem d_X6_readThing_86 : decode cX6_readThing 86 = .ok (.getfield 21, 3) := by decide +kernel
theorem d_X6_readThing_89 : decode cX6_readThing 89 = .ok (.aload_n 0, 1) := by decide +kernel
theorem d_X6_readThing_90 : decode cX6_readThing 90 = .ok (.getfield 46, 3) := by decide +kernel
theorem d_X6_readThing_93 : decode cX6_readThing 93 = .ok (.iload 4, 2) := by decide +kernel
theorem d_X6_readThing_95 : decode cX6_readThing 95 = .ok (.iastore, 1) := by decide +kernel
theorem d_X6_readThing_96 : decode cX6_readThing 96 = .ok (.aload_n 0, 1) := by decide +kernel
theorem d_X6_readThing_97 : decode cX6_readThing 97 = .ok (.getfield 24, 3) := by decide +kernel
theorem d_X6_readThing_100 : decode cX6_readThing 100 = .ok (.aload_n 0, 1) := by decide +kernel
theorem d_X6_readThing_101 : decode cX6_readThing 101 = .ok (.getfield 46, 3) := by decide +kernel
theorem d_X6_readThing_104 : decode cX6_readThing 104 = .ok (.iload 5, 2) := by decide +kernel
theorem d_X6_readThing_106 : decode cX6_readThing 106 = .ok (.iastore, 1) := by decide +kernel
theorem d_X6_readThing_107 : decode cX6_readThing 107 = .ok (.aload_n 0, 1) := by decide +kernel
theorem d_X6_readThing_108 : decode cX6_readThing 108 = .ok (.getfield 27, 3) := by decide +kernel
theorem d_X6_readThing_111 : decode cX6_readThing 111 = .ok (.aload_n 0, 1) := by decide +kernel
theorem d_X6_readThing_112 : decode cX6_readThing 112 = .ok (.getfield 46, 3) := by decide +kernel
theorem d_X6_readThing_115 : decode cX6_readThing 115 = .ok (.iload 6, 2) := by decide +kernel
theorem d_X6_readThing_117 : decode cX6_readThing 117 = .ok (.iastore, 1) := by decide +kernel
theorem d_X6_readThing_118 : decode cX6_readThing 118 = .ok (.aload_n 0, 1) := by decide +kernel
theorem d_X6_readThing_119 : decode cX6_readThing 119 = .ok (.dup, 1) := by decide +kernel
theorem d_X6_readThing_120 : decode cX6_readThing 120 = .ok (.getfield 46, 3) := by decide +kernel
theorem d_X6_readThing_123 : decode cX6_readThing 123 = .ok (.iconst 1, 1) := by decide +kernel
theorem d_X6_readThing_124 : decode cX6_readThing 124 = .ok (.iadd, 1) := by decide +kernel
theorem d_X6_readThing_125 : decode cX6_readThing 125 = .ok (.putfield 46, 3) := by decide +kernel
theorem d_X6_readThing_128 : decode cX6_readThing 128 = .ok (.return_, 1) := by decide +kernel
set_option maxRecDepth 100000 in
theorem L_X6_readThing {p : Program} {l : Launch} {e : Env} {s : State} {m : MethodId} {args : Array Value} {below : List Frame} {meth : Method} {c : Code} {D : va_G} {ca : Nat → ClassId} {ad sx sy : Nat → Nat} {A : Nat → Prop} {Q : QT} (C0 : CX p s m args meth c cX6_readThing 7 yX6_readThing.cls D ca ad A) (hE : EX sx sy A s s.heap) (hr : meth.sig.returnType = none) (hno : ∀ x ∈ c.exceptionTable.toList, False) : R_X6_readThing (JW p l e { frames := 13, cells := 0, slots := 6 * 0, locals := 264 } s m args below meth c 7 D ca ad A (vx_MQ below (Qn D ca ad A Q) (Qx D ca ad A Q) args s 0 (6 * 0) A) gz gz true) Q := ⟨s_aln C0 (d_X6_readThing_0) hgz (s_ic C0 (d_X6_readThing_1) hgz (s_aln C0 (d_X6_readThing_2) hgz (s_gi C0 (j := 0) (c0 := 6) rfl gX6 (by decide) rfl (by decide) wg71 (d_X6_readThing_3) hgz (s_ic C0 (d_X6_readThing_6) hgz (s_sub C0 (d_X6_readThing_7) hgz (s_callVN C0 hE (c_X9_readNumber l) wg728 wn725 wg727 ws25 wg2 ⟨by decide, by decide⟩ (by decide +kernel) (c0 := 9) rfl ⟨by decide, by decide⟩ ⟨by decide, by decide⟩ (d_X6_readThing_8) (fun x hx => (hno x hx).elim) ⟨by decide, by decide⟩ ⟨by decide, by decide⟩ (s_isn C0 (d_X6_readThing_11) hgz (s_aln C0 (d_X6_readThing_12) hgz (s_ic C0 (d_X6_readThing_13) hgz (s_bi C0 (d_X6_readThing_14) hgz (s_callVN C0 hE (c_X9_readNumber l) wg728 wn725 wg727 ws25 wg2 ⟨by decide, by decide⟩ (by decide +kernel) (c0 := 9) rfl ⟨by decide, by decide⟩ ⟨by decide, by decide⟩ (d_X6_readThing_16) (fun x hx => (hno x hx).elim) ⟨by decide, by decide⟩ ⟨by decide, by decide⟩ (s_is C0 (d_X6_readThing_19) hgz (s_iln C0 (d_X6_readThing_21) hgz (s_zeq C0 (d_X6_readThing_22) (by decide) hgz hgz (fun _ _ _ h => h) (s_aln C0 (d_X6_readThing_25) hgz (s_ic C0 (d_X6_readThing_26) hgz (s_aln C0 (d_X6_readThing_27) hgz (s_gi C0 (j := 8) (c0 := 6) rfl gX6 (by decide) rfl (by decide) wg112 (d_X6_readThing_28) hgz (s_ic C0 (d_X6_readThing_31) hgz (s_sub C0 (d_X6_readThing_32) hgz (s_callVN C0 hE (c_X9_readNumber l) wg728 wn725 wg727 ws25 wg2 ⟨by decide, by decide⟩ (by decide +kernel) (c0 := 9) rfl ⟨by decide, by decide⟩ ⟨by decide, by decide⟩ (d_X6_readThing_33) (fun x hx => (hno x hx).elim) ⟨by decide, by decide⟩ ⟨by decide, by decide⟩ (s_goto C0 (tgt := 40) (d_X6_readThing_36) (by decide) hgz (fun _ _ _ h => h)))) (okn rfl)))) (okn rfl))))))) (okn rfl) rfl) (okn rfl)))))) (okn rfl)))) (okn rfl)),
  s_ic C0 (d_X6_readThing_39) hgz (fun _ _ _ h => h) (okn rfl),
  s_is C0 (d_X6_readThing_40) hgz (s_iln C0 (d_X6_readThing_42) hgz (s_zeq C0 (d_X6_readThing_43) (by decide) hgz hgz (fun _ _ _ h => h) (s_aln C0 (d_X6_readThing_46) hgz (s_ic C0 (d_X6_readThing_47) hgz (s_bi C0 (d_X6_readThing_48) hgz (s_callVN C0 hE (c_X9_readNumber l) wg728 wn725 wg727 ws25 wg2 ⟨by decide, by decide⟩ (by decide +kernel) (c0 := 9) rfl ⟨by decide, by decide⟩ ⟨by decide, by decide⟩ (d_X6_readThing_50) (fun x hx => (hno x hx).elim) ⟨by decide, by decide⟩ ⟨by decide, by decide⟩ (s_goto C0 (tgt := 57) (d_X6_readThing_53) (by decide) hgz (fun _ _ _ h => h))) (okn rfl) rfl) (okn rfl))))),
  s_ic C0 (d_X6_readThing_56) hgz (fun _ _ _ h => h) (okn rfl),
  s_is C0 (d_X6_readThing_57) hgz (s_aln C0 (d_X6_readThing_59) hgz (s_callVN C0 hE (c_X9_isSound l) wg648 wn731 wg647 ws18 wg2 ⟨by decide, by decide⟩ (by decide +kernel) (c0 := 9) rfl ⟨by decide, by decide⟩ ⟨by decide, by decide⟩ (d_X6_readThing_60) (fun x hx => (hno x hx).elim) ⟨by decide, by decide⟩ ⟨by decide, by decide⟩ (s_zeq C0 (d_X6_readThing_63) (by decide) hgz hgz (fun _ _ _ h => h) (s_aln C0 (d_X6_readThing_66) hgz (s_gi C0 (j := 3) (c0 := 6) rfl gX6 (by decide) rfl (by decide) wg84 (d_X6_readThing_67) hgz (s_bi C0 (d_X6_readThing_70) hgz (s_cge C0 (d_X6_readThing_72) (by decide) hgz hgz (fun _ _ _ h => h) (s_aln C0 (d_X6_readThing_75) hgz (s_gr C0 (j := 4) (c0 := 6) rfl gX6 (by decide) rfl rfl wg92 (d_X6_readThing_76) hgz (s_aln C0 (d_X6_readThing_79) hgz (s_gi C0 (j := 3) (c0 := 6) rfl gX6 (by decide) rfl (by decide) wg84 (d_X6_readThing_80) hgz (s_iln C0 (d_X6_readThing_83) hgz (s_iax C0 (d_X6_readThing_84) hgz (s_aln C0 (d_X6_readThing_85) hgz (s_gr C0 (j := 5) (c0 := 6) rfl gX6 (by decide) rfl rfl wg98 (d_X6_readThing_86) hgz (s_aln C0 (d_X6_readThing_89) hgz (s_gi C0 (j := 3) (c0 := 6) rfl gX6 (by decide) rfl (by decide) wg84 (d_X6_readThing_90) hgz (s_il C0 (d_X6_readThing_93) hgz (s_iax C0 (d_X6_readThing_95) hgz (s_aln C0 (d_X6_readThing_96) hgz (s_gr C0 (j := 6) (c0 := 6) rfl gX6 (by decide) rfl rfl wg105 (d_X6_readThing_97) hgz (s_aln C0 (d_X6_readThing_100) hgz (s_gi C0 (j := 3) (c0 := 6) rfl gX6 (by decide) rfl (by decide) wg84 (d_X6_readThing_101) hgz (s_il C0 (d_X6_readThing_104) hgz (s_iax C0 (d_X6_readThing_106) hgz (s_aln C0 (d_X6_readThing_107) hgz (s_gr C0 (j := 7) (c0 := 6) rfl gX6 (by decide) rfl rfl wg110 (d_X6_readThing_108) hgz (s_aln C0 (d_X6_readThing_111) hgz (s_gi C0 (j := 3) (c0 := 6) rfl gX6 (by decide) rfl (by decide) wg84 (d_X6_readThing_112) hgz (s_il C0 (d_X6_readThing_115) hgz (s_iax C0 (d_X6_readThing_117) hgz (s_aln C0 (d_X6_readThing_118) hgz (s_dup C0 (d_X6_readThing_119) hgz (s_gi C0 (j := 3) (c0 := 6) rfl gX6 (by decide) rfl (by decide) wg84 (d_X6_readThing_120) hgz (s_ic C0 (d_X6_readThing_123) hgz (s_add C0 (d_X6_readThing_124) hgz (s_pi C0 (j := 3) (c0 := 6) rfl gX6 tyX6_ok nmX6 (by decide) rfl (by decide) rfl rfl wg84 (d_X6_readThing_125) hgz (fun _ _ _ h => h))) (okn rfl)))))))))))))))))))))))))))))) (okn rfl) rfl)))))),
  s_rv C0 hr (d_X6_readThing_128) ⟨by decide, by decide⟩⟩
theorem c_X6_readThing (l : Launch) : Ctr l yX6_readThing cX6_readThing 7 none 13 264 0 (fun sx => (nf G_X6_readThing)) := ctr_of (by decide) gz gz ⟨rfl, rfl⟩ (fun p e s m args below meth c D ca ad sx sy A Q as M C0 hE hr hno hF => P_X6_readThing (L_X6_readThing C0 hE hr hno) hF)
theorem d_X7_ordersWithAhead_0 : decode cX7_ordersWithAhead 0 = .ok (.iload_n 0, 1) := by decide +kernel
theorem d_X7_ordersWithAhead_1 : decode cX7_ordersWithAhead 1 = .ok (.ifCond .eq 8, 3) := by decide +kernel
theorem d_X7_ordersWithAhead_4 : decode cX7_ordersWithAhead 4 = .ok (.iload_n 0, 1) := by decide +kernel
theorem d_X7_ordersWithAhead_5 : decode cX7_ordersWithAhead 5 = .ok (.iconst 3, 1) := by decide +kernel
theorem d_X7_ordersWithAhead_6 : decode cX7_ordersWithAhead 6 = .ok (.if_icmp .ne 8, 3) := by decide +kernel
theorem d_X7_ordersWithAhead_9 : decode cX7_ordersWithAhead 9 = .ok (.bipush 6, 2) := by decide +kernel
theorem d_X7_ordersWithAhead_11 : decode cX7_ordersWithAhead 11 = .ok (.goto 4, 3) := by decide +kernel
theorem d_X7_ordersWithAhead_14 : decode cX7_ordersWithAhead 14 = .ok (.iconst 2, 1) := by decide +kernel
theorem d_X7_ordersWithAhead_15 : decode cX7_ordersWithAhead 15 = .ok (.ireturn, 1) := by decide +kernel
set_option maxRecDepth 100000 in
theorem L_X7_ordersWithAhead {p : Program} {l : Launch} {e : Env} {s : State} {m : MethodId} {args : Array Value} {below : List Frame} {meth : Method} {c : Code} {D : va_G} {ca : Nat → ClassId} {ad sx sy : Nat → Nat} {A : Nat → Prop} {Q : QT} (C0 : CX p s m args meth c cX7_ordersWithAhead 1 yX7_ordersWithAhead.cls D ca ad A) (hE : EX sx sy A s s.heap) (hr : meth.sig.returnType = (some .int)) (hno : ∀ x ∈ c.exceptionTable.toList, False) : R_X7_ordersWithAhead (JW p l e { frames := 10, cells := 0, slots := 6 * 0, locals := 200 } s m args below meth c 1 D ca ad A (vx_MQ below (Qn D ca ad A Q) (Qx D ca ad A Q) args s 0 (6 * 0) A) gz gz true) Q := ⟨s_iln C0 (d_X7_ordersWithAhead_0) hgz (s_zeq C0 (d_X7_ordersWithAhead_1) (by decide) hgz hgz (fun _ _ _ h => h) (s_iln C0 (d_X7_ordersWithAhead_4) hgz (s_ic C0 (d_X7_ordersWithAhead_5) hgz (s_cne C0 (d_X7_ordersWithAhead_6) (by decide) hgz hgz (fun _ _ _ h => h) (fun _ _ _ h => h)) (okn rfl)))),
  s_bi C0 (d_X7_ordersWithAhead_9) hgz (s_goto C0 (tgt := 15) (d_X7_ordersWithAhead_11) (by decide) hgz (fun _ _ _ h => h)) (okn rfl) rfl,
  s_ic C0 (d_X7_ordersWithAhead_14) hgz (fun _ _ _ h => h) (okn rfl),
  s_ri C0 hr (d_X7_ordersWithAhead_15) ⟨by decide, by decide⟩⟩
theorem c_X7_ordersWithAhead (l : Launch) : Ctr l yX7_ordersWithAhead cX7_ordersWithAhead 1 (some .int) 10 200 0 (fun sx => (nf G_X7_ordersWithAhead)) := ctr_of (by decide) gz gz ⟨rfl, rfl⟩ (fun p e s m args below meth c D ca ad sx sy A Q as M C0 hE hr hno hF => P_X7_ordersWithAhead (L_X7_ordersWithAhead C0 hE hr hno) hF)
theorem wg1089 : Cond.code ⟨"WeighedHall$Scales", "ordersWithAhead", "(I)I"⟩ prog_9_method_9_code 1 (Option.some .int) ∈ GT := gt_mem 1209 (by decide +kernel) rfl
theorem wg1087 : Cond.methodLink "WeighedHall$Scales" 61 ⟨"WeighedHall$Scales", "ordersWithAhead", "(I)I"⟩ ∈ GT := gt_mem 1207 (by decide +kernel) rfl
theorem wg1088 : Cond.static ⟨"WeighedHall$Scales", "ordersWithAhead", "(I)I"⟩ ∈ GT := gt_mem 1208 (by decide +kernel) rfl
theorem wg1086 : Cond.methodLink "WeighedHall$Scales" 56 ⟨"java/lang/Integer", "bitCount", "(I)I"⟩ ∈ GT := gt_mem 1206 (by decide +kernel) rfl
theorem d_X7_ordersTurnedBy_0 : decode cX7_ordersTurnedBy 0 = .ok (.iconst 0, 1) := by decide +kernel
theorem d_X7_ordersTurnedBy_1 : decode cX7_ordersTurnedBy 1 = .ok (.istore_n 2, 1) := by decide +kernel
theorem d_X7_ordersTurnedBy_2 : decode cX7_ordersTurnedBy 2 = .ok (.iconst 0, 1) := by decide +kernel
theorem d_X7_ordersTurnedBy_3 : decode cX7_ordersTurnedBy 3 = .ok (.istore_n 3, 1) := by decide +kernel
theorem d_X7_ordersTurnedBy_4 : decode cX7_ordersTurnedBy 4 = .ok (.iload_n 3, 1) := by decide +kernel
theorem d_X7_ordersTurnedBy_5 : decode cX7_ordersTurnedBy 5 = .ok (.bipush 16, 2) := by decide +kernel
theorem d_X7_ordersTurnedBy_7 : decode cX7_ordersTurnedBy 7 = .ok (.if_icmp .ge 47, 3) := by decide +kernel
theorem d_X7_ordersTurnedBy_10 : decode cX7_ordersTurnedBy 10 = .ok (.iload_n 1, 1) := by decide +kernel
theorem d_X7_ordersTurnedBy_11 : decode cX7_ordersTurnedBy 11 = .ok (.iload_n 3, 1) := by decide +kernel
theorem d_X7_ordersTurnedBy_12 : decode cX7_ordersTurnedBy 12 = .ok (.invokestatic 42, 3) := by decide +kernel
theorem d_X7_ordersTurnedBy_15 : decode cX7_ordersTurnedBy 15 = .ok (.ifCond .ne 33, 3) := by decide +kernel
theorem d_X7_ordersTurnedBy_18 : decode cX7_ordersTurnedBy 18 = .ok (.aload_n 0, 1) := by decide +kernel
theorem d_X7_ordersTurnedBy_19 : decode cX7_ordersTurnedBy 19 = .ok (.iload_n 3, 1) := by decide +kernel
theorem d_X7_ordersTurnedBy_20 : decode cX7_ordersTurnedBy 20 = .ok (.invokevirtual 53, 3) := by decide +kernel
theorem d_X7_ordersTurnedBy_23 : decode cX7_ordersTurnedBy 23 = .ok (.ifCond .ne 25, 3) := by decide +kernel
theorem d_X7_ordersTurnedBy_26 : decode cX7_ordersTurnedBy 26 = .ok (.aload_n 0, 1) := by decide +kernel
theorem d_X7_ordersTurnedBy_27 : decode cX7_ordersTurnedBy 27 = .ok (.iload_n 3, 1) := by decide +kernel
theorem d_X7_ordersTurnedBy_28 : decode cX7_ordersTurnedBy 28 = .ok (.iconst 1, 1) := by decide +kernel
theorem d_X7_ordersTurnedBy_29 : decode cX7_ordersTurnedBy 29 = .ok (.iload_n 1, 1) := by decide +kernel
theorem d_X7_ordersTurnedBy_30 : decode cX7_ordersTurnedBy 30 = .ok (.ishl, 1) := by decide +kernel
theorem d_X7_ordersTurnedBy_31 : decode cX7_ordersTurnedBy 31 = .ok (.ior, 1) := by decide +kernel
theorem d_X7_ordersTurnedBy_32 : decode cX7_ordersTurnedBy 32 = .ok (.invokevirtual 53, 3) := by decide +kernel
theorem d_X7_ordersTurnedBy_35 : decode cX7_ordersTurnedBy 35 = .ok (.ifCond .eq 13, 3) := by decide +kernel
theorem d_X7_ordersTurnedBy_38 : decode cX7_ordersTurnedBy 38 = .ok (.iload_n 2, 1) := by decide +kernel
theorem d_X7_ordersTurnedBy_39 : decode cX7_ordersTurnedBy 39 = .ok (.iload_n 3, 1) := by decide +kernel
theorem d_X7_ordersTurnedBy_40 : decode cX7_ordersTurnedBy 40 = .ok (.invokestatic 56, 3) := by decide +kernel
theorem d_X7_ordersTurnedBy_43 : decode cX7_ordersTurnedBy 43 = .ok (.invokestatic 61, 3) := by decide +kernel
theorem d_X7_ordersTurnedBy_46 : decode cX7_ordersTurnedBy 46 = .ok (.iadd, 1) := by decide +kernel
theorem d_X7_ordersTurnedBy_47 : decode cX7_ordersTurnedBy 47 = .ok (.istore_n 2, 1) := by decide +kernel
theorem d_X7_ordersTurnedBy_48 : decode cX7_ordersTurnedBy 48 = .ok (.iinc 3 1, 3) := by decide +kernel
theorem d_X7_ordersTurnedBy_51 : decode cX7_ordersTurnedBy 51 = .ok (.goto (-47), 3) := by decide +kernel
theorem d_X7_ordersTurnedBy_54 : decode cX7_ordersTurnedBy 54 = .ok (.iload_n 2, 1) := by decide +kernel
theorem d_X7_ordersTurnedBy_55 : decode cX7_ordersTurnedBy 55 = .ok (.ireturn, 1) := by decide +kernel
set_option maxRecDepth 100000 in
theorem L_X7_ordersTurnedBy {p : Program} {l : Launch} {e : Env} {s : State} {m : MethodId} {args : Array Value} {below : List Frame} {meth : Method} {c : Code} {D : va_G} {ca : Nat → ClassId} {ad sx sy : Nat → Nat} {A : Nat → Prop} {Q : QT} (C0 : CX p s m args meth c cX7_ordersTurnedBy 4 yX7_ordersTurnedBy.cls D ca ad A) (hE : EX sx sy A s s.heap) (hr : meth.sig.returnType = (some .int)) (hno : ∀ x ∈ c.exceptionTable.toList, False) : R_X7_ordersTurnedBy (JW p l e { frames := 12, cells := 0, slots := 6 * 0, locals := 244 } s m args below meth c 4 D ca ad A (vx_MQ below (Qn D ca ad A Q) (Qx D ca ad A Q) args s 0 (6 * 0) A) gz gz true) Q := ⟨s_ic C0 (d_X7_ordersTurnedBy_0) hgz (s_isn C0 (d_X7_ordersTurnedBy_1) hgz (s_ic C0 (d_X7_ordersTurnedBy_2) hgz (s_isn C0 (d_X7_ordersTurnedBy_3) hgz (fun _ _ _ h => h)) (okn rfl))) (okn rfl),
  s_iln C0 (d_X7_ordersTurnedBy_4) hgz (s_bi C0 (d_X7_ordersTurnedBy_5) hgz (s_cge C0 (d_X7_ordersTurnedBy_7) (by decide) hgz hgz (fun _ _ _ h => h) (s_iln C0 (d_X7_ordersTurnedBy_10) hgz (s_iln C0 (d_X7_ordersTurnedBy_11) hgz (s_callSN C0 hE (c_X10_isIn l) wg491 wn489 wg490 wg1 ⟨by decide, by decide⟩ (by decide +kernel) ⟨by decide, by decide⟩ ⟨by decide, by decide⟩ (d_X7_ordersTurnedBy_12) (fun x hx => (hno x hx).elim) ⟨by decide, by decide⟩ ⟨by decide, by decide⟩ (s_zne C0 (d_X7_ordersTurnedBy_15) (by decide) hgz hgz (fun _ _ _ h => h) (s_aln C0 (d_X7_ordersTurnedBy_18) hgz (s_iln C0 (d_X7_ordersTurnedBy_19) hgz (s_callV C0 hE (c_X7_isWinning l) wg511 wg508 wg510 ws8 wg10 ⟨by decide, by decide⟩ (by decide +kernel) (c0 := 7) rfl ⟨by decide, by decide⟩ ⟨by decide, by decide⟩ (d_X7_ordersTurnedBy_20) (fun x hx => (hno x hx).elim) ⟨by decide, by decide⟩ ⟨by decide, by decide⟩ (s_zne C0 (d_X7_ordersTurnedBy_23) (by decide) hgz hgz (fun _ _ _ h => h) (s_aln C0 (d_X7_ordersTurnedBy_26) hgz (s_iln C0 (d_X7_ordersTurnedBy_27) hgz (s_ic C0 (d_X7_ordersTurnedBy_28) hgz (s_iln C0 (d_X7_ordersTurnedBy_29) hgz (s_shl C0 (d_X7_ordersTurnedBy_30) hgz (s_or C0 (d_X7_ordersTurnedBy_31) hgz (s_callV C0 hE (c_X7_isWinning l) wg511 wg508 wg510 ws8 wg10 ⟨by decide, by decide⟩ (by decide +kernel) (c0 := 7) rfl ⟨by decide, by decide⟩ ⟨by decide, by decide⟩ (d_X7_ordersTurnedBy_32) (fun x hx => (hno x hx).elim) ⟨by decide, by decide⟩ ⟨by decide, by decide⟩ (s_zeq C0 (d_X7_ordersTurnedBy_35) (by decide) hgz hgz (fun _ _ _ h => h) (s_iln C0 (d_X7_ordersTurnedBy_38) hgz (s_iln C0 (d_X7_ordersTurnedBy_39) hgz (s_callS C0 hE (c_J6_bitCount_0f7a4 l) wg481 wg1086 wg480 wg24 ⟨by decide, by decide⟩ (by decide +kernel) ⟨by decide, by decide⟩ ⟨by decide, by decide⟩ (d_X7_ordersTurnedBy_40) (fun x hx => (hno x hx).elim) ⟨by decide, by decide⟩ ⟨by decide, by decide⟩ (s_callS C0 hE (c_X7_ordersWithAhead l) wg1089 wg1087 wg1088 wg10 ⟨by decide, by decide⟩ (by decide +kernel) ⟨by decide, by decide⟩ ⟨by decide, by decide⟩ (d_X7_ordersTurnedBy_43) (fun x hx => (hno x hx).elim) ⟨by decide, by decide⟩ ⟨by decide, by decide⟩ (s_add C0 (d_X7_ordersTurnedBy_46) hgz (s_isn C0 (d_X7_ordersTurnedBy_47) hgz (fun _ _ _ h => h)))))))))))) (okn rfl))))))))))))) (okn rfl) rfl),
  s_inc C0 (d_X7_ordersTurnedBy_48) hgz (s_goto C0 (tgt := 4) (d_X7_ordersTurnedBy_51) (by decide) hgz (fun _ _ _ h => h)),
  s_iln C0 (d_X7_ordersTurnedBy_54) hgz (s_ri C0 hr (d_X7_ordersTurnedBy_55) ⟨by decide, by decide⟩)⟩
theorem c_X7_ordersTurnedBy (l : Launch) : Ctr l yX7_ordersTurnedBy cX7_ordersTurnedBy 4 (some .int) 12 244 0 (fun sx => (nf G_X7_ordersTurnedBy)) := ctr_of (by decide) gz gz ⟨rfl, rfl⟩ (fun p e s m args below meth c D ca ad sx sy A Q as M C0 hE hr hno hF => P_X7_ordersTurnedBy (L_X7_ordersTurnedBy C0 hE hr hno) hF)
theorem wg1059 : Cond.methodLink "WeighedHall$Sitting" 137 ⟨"WeighedHall$Sitting", "countOf", "(II)I"⟩ ∈ GT := gt_mem 1179 (by decide +kernel) rfl
theorem wn130 : Cond.fieldLinkNest "WeighedHall$Sitting" 141 "WeighedHall$Plan" "con" "[I" "WeighedHall" ∈ NT := nt_mem 130 (by decide +kernel) rfl
theorem wn127 : Cond.fieldLinkNest "WeighedHall$Sitting" 134 "WeighedHall$Plan" "pro" "[I" "WeighedHall" ∈ NT := nt_mem 127 (by decide +kernel) rfl
theorem wg969 : Cond.code ⟨"WeighedHall$Plan", "hasMotion", "(I)Z"⟩ prog_8_method_15_code 2 (Option.some .boolean) ∈ GT := gt_mem 1089 (by decide +kernel) rfl
theorem wn1058 : Cond.methodLinkNest "WeighedHall$Sitting" 131 ⟨"WeighedHall$Plan", "hasMotion", "(I)Z"⟩ "WeighedHall" ∈ NT := nt_mem 1058 (by decide +kernel) rfl
theorem wg968 : Cond.instanceMethod ⟨"WeighedHall$Plan", "hasMotion", "(I)Z"⟩ ∈ GT := gt_mem 1088 (by decide +kernel) rfl
theorem ws57 : Cond.selects "WeighedHall$Plan" ⟨"WeighedHall$Plan", "hasMotion", "(I)Z"⟩ ⟨"WeighedHall$Plan", "hasMotion", "(I)Z"⟩ ∈ GT := gt_mem 57 (by decide +kernel) rfl
theorem d_X8_isPassed_0 : decode cX8_isPassed 0 = .ok (.aload_n 0, 1) := by decide +kernel
theorem d_X8_isPassed_1 : decode cX8_isPassed 1 = .ok (.getfield 12, 3) := by decide +kernel
theorem d_X8_isPassed_4 : decode cX8_isPassed 4 = .ok (.iload_n 1, 1) := by decide +kernel
theorem d_X8_isPassed_5 : decode cX8_isPassed 5 = .ok (.invokevirtual 131, 3) := by decide +kernel
theorem d_X8_isPassed_8 : decode cX8_isPassed 8 = .ok (.ifCond .eq 38, 3) := by decide +kernel
theorem d_X8_isPassed_11 : decode cX8_isPassed 11 = .ok (.aload_n 0, 1) := by decide +kernel
theorem d_X8_isPassed_12 : decode cX8_isPassed 12 = .ok (.aload_n 0, 1) := by decide +kernel
theorem d_X8_isPassed_13 : decode cX8_isPassed 13 = .ok (.getfield 12, 3) := by decide +kernel
theorem d_X8_isPassed_16 : decode cX8_isPassed 16 = .ok (.getfield 134, 3) := by decide +kernel
theorem d_X8_isPassed_19 : decode cX8_isPassed 19 = .ok (.iload_n 1, 1) := by decide +kernel
theorem d_X8_isPassed_20 : decode cX8_isPassed 20 = .ok (.iaload, 1) := by decide +kernel
theorem d_X8_isPassed_21 : decode cX8_isPassed 21 = .ok (.iload_n 2, 1) := by decide +kernel
theorem d_X8_isPassed_22 : decode cX8_isPassed 22 = .ok (.invokevirtual 137, 3) := by decide +kernel
theorem d_X8_isPassed_25 : decode cX8_isPassed 25 = .ok (.aload_n 0, 1) := by decide +kernel
theorem d_X8_isPassed_26 : decode cX8_isPassed 26 = .ok (.aload_n 0, 1) := by decide +kernel
theorem d_X8_isPassed_27 : decode cX8_isPassed 27 = .ok (.getfield 12, 3) := by decide +kernel
theorem d_X8_isPassed_30 : decode cX8_isPassed 30 = .ok (.getfield 141, 3) := by decide +kernel
theorem d_X8_isPassed_33 : decode cX8_isPassed 33 = .ok (.iload_n 1, 1) := by decide +kernel
theorem d_X8_isPassed_34 : decode cX8_isPassed 34 = .ok (.iaload, 1) := by decide +kernel
theorem d_X8_isPassed_35 : decode cX8_isPassed 35 = .ok (.iload_n 2, 1) := by decide +kernel
theorem d_X8_isPassed_36 : decode cX8_isPassed 36 = .ok (.invokevirtual 137, 3) := by decide +kernel
theorem d_X8_isPassed_39 : decode cX8_isPassed 39 = .ok (.if_icmp .le 7, 3) := by decide +kernel
theorem d_X8_isPassed_42 : decode cX8_isPassed 42 = .ok (.iconst 1, 1) := by decide +kernel
theorem d_X8_isPassed_43 : decode cX8_isPassed 43 = .ok (.goto 4, 3) := by decide +kernel
theorem d_X8_isPassed_46 : decode cX8_isPassed 46 = .ok (.iconst 0, 1) := by decide +kernel
theorem d_X8_isPassed_47 : decode cX8_isPassed 47 = .ok (.ireturn, 1) := by decide +kernel
set_option maxRecDepth 100000 in
theorem L_X8_isPassed {p : Program} {l : Launch} {e : Env} {s : State} {m : MethodId} {args : Array Value} {below : List Frame} {meth : Method} {c : Code} {D : va_G} {ca : Nat → ClassId} {ad sx sy : Nat → Nat} {A : Nat → Prop} {Q : QT} (C0 : CX p s m args meth c cX8_isPassed 3 yX8_isPassed.cls D ca ad A) (hE : EX sx sy A s s.heap) (hr : meth.sig.returnType = (some .boolean)) (hno : ∀ x ∈ c.exceptionTable.toList, False) : R_X8_isPassed (JW p l e { frames := 12, cells := 0, slots := 6 * 0, locals := 246 } s m args below meth c 3 D ca ad A (vx_MQ below (Qn D ca ad A Q) (Qx D ca ad A Q) args s 0 (6 * 0) A) gz gz true) Q := ⟨s_aln C0 (d_X8_isPassed_0) hgz (s_gm C0 (j := 0) (c0 := 8) rfl gX8 (by decide) rfl rfl wg236 (d_X8_isPassed_1) hgz (s_iln C0 (d_X8_isPassed_4) hgz (s_callVN C0 hE (c_X6_hasMotion l) wg969 wn1058 wg968 ws57 wg3 ⟨by decide, by decide⟩ (by decide +kernel) (c0 := 6) rfl ⟨by decide, by decide⟩ ⟨by decide, by decide⟩ (d_X8_isPassed_5) (fun x hx => (hno x hx).elim) ⟨by decide, by decide⟩ ⟨by decide, by decide⟩ (s_zeq C0 (d_X8_isPassed_8) (by decide) hgz hgz (fun _ _ _ h => h) (s_aln C0 (d_X8_isPassed_11) hgz (s_aln C0 (d_X8_isPassed_12) hgz (s_gm C0 (j := 0) (c0 := 8) rfl gX8 (by decide) rfl rfl wg236 (d_X8_isPassed_13) hgz (s_grN C0 (j := 12) (c0 := 6) rfl gX6 (by decide) rfl rfl wn127 (d_X8_isPassed_16) hgz (s_iln C0 (d_X8_isPassed_19) hgz (s_ia C0 (d_X8_isPassed_20) hgz (s_iln C0 (d_X8_isPassed_21) hgz (s_callV C0 hE (c_X8_countOf l) wg917 wg1059 wg916 ws53 wg7 ⟨by decide, by decide⟩ (by decide +kernel) (c0 := 8) rfl ⟨by decide, by decide⟩ ⟨by decide, by decide⟩ (d_X8_isPassed_22) (fun x hx => (hno x hx).elim) ⟨by decide, by decide⟩ ⟨by decide, by decide⟩ (s_aln C0 (d_X8_isPassed_25) hgz (s_aln C0 (d_X8_isPassed_26) hgz (s_gm C0 (j := 0) (c0 := 8) rfl gX8 (by decide) rfl rfl wg236 (d_X8_isPassed_27) hgz (s_grN C0 (j := 13) (c0 := 6) rfl gX6 (by decide) rfl rfl wn130 (d_X8_isPassed_30) hgz (s_iln C0 (d_X8_isPassed_33) hgz (s_ia C0 (d_X8_isPassed_34) hgz (s_iln C0 (d_X8_isPassed_35) hgz (s_callV C0 hE (c_X8_countOf l) wg917 wg1059 wg916 ws53 wg7 ⟨by decide, by decide⟩ (by decide +kernel) (c0 := 8) rfl ⟨by decide, by decide⟩ ⟨by decide, by decide⟩ (d_X8_isPassed_36) (fun x hx => (hno x hx).elim) ⟨by decide, by decide⟩ ⟨by decide, by decide⟩ (s_cle C0 (d_X8_isPassed_39) (by decide) hgz hgz (fun _ _ _ h => h) (s_ic C0 (d_X8_isPassed_42) hgz (s_goto C0 (tgt := 47) (d_X8_isPassed_43) (by decide) hgz (fun _ _ _ h => h)) (okn rfl))))))))))))))))))))))),
  s_ic C0 (d_X8_isPassed_46) hgz (fun _ _ _ h => h) (okn rfl),
  s_rz C0 hr (d_X8_isPassed_47) ⟨by decide, by decide⟩⟩
theorem c_X8_isPassed (l : Launch) : Ctr l yX8_isPassed cX8_isPassed 3 (some .boolean) 12 246 0 (fun sx => (nf G_X8_isPassed)) := ctr_of (by decide) gz gz ⟨rfl, rfl⟩ (fun p e s m args below meth c D ca ad sx sy A Q as M C0 hE hr hno hF => P_X8_isPassed (L_X8_isPassed C0 hE hr hno) hF)
theorem wg1057 : Cond.code ⟨"WeighedHall$Sitting", "isPassed", "(II)Z"⟩ prog_10_method_14_code 3 (Option.some .boolean) ∈ GT := gt_mem 1177 (by decide +kernel) rfl
theorem wg1054 : Cond.methodLink "WeighedHall$Sitting" 153 ⟨"WeighedHall$Sitting", "isPassed", "(II)Z"⟩ ∈ GT := gt_mem 1174 (by decide +kernel) rfl
theorem wg1056 : Cond.instanceMethod ⟨"WeighedHall$Sitting", "isPassed", "(II)Z"⟩ ∈ GT := gt_mem 1176 (by decide +kernel) rfl
theorem ws67 : Cond.selects "WeighedHall$Sitting" ⟨"WeighedHall$Sitting", "isPassed", "(II)Z"⟩ ⟨"WeighedHall$Sitting", "isPassed", "(II)Z"⟩ ∈ GT := gt_mem 67 (by decide +kernel) rfl
theorem wn133 : Cond.fieldLinkNest "WeighedHall$Sitting" 150 "WeighedHall$Plan" "law" "I" "WeighedHall" ∈ NT := nt_mem 133 (by decide +kernel) rfl
theorem wn122 : Cond.fieldLinkNest "WeighedHall$Sitting" 147 "WeighedHall$Plan" "minute" "[I" "WeighedHall" ∈ NT := nt_mem 122 (by decide +kernel) rfl
theorem wn118 : Cond.fieldLinkNest "WeighedHall$Sitting" 144 "WeighedHall$Plan" "motions" "I" "WeighedHall" ∈ NT := nt_mem 118 (by decide +kernel) rfl
theorem d_X8_passedBitsAt_0 : decode cX8_passedBitsAt 0 = .ok (.iconst 0, 1) := by decide +kernel
theorem d_X8_passedBitsAt_1 : decode cX8_passedBitsAt 1 = .ok (.istore_n 2, 1) := by decide +kernel
theorem d_X8_passedBitsAt_2 : decode cX8_passedBitsAt 2 = .ok (.iconst 0, 1) := by decide +kernel
theorem d_X8_passedBitsAt_3 : decode cX8_passedBitsAt 3 = .ok (.istore_n 3, 1) := by decide +kernel
theorem d_X8_passedBitsAt_4 : decode cX8_passedBitsAt 4 = .ok (.iload_n 3, 1) := by decide +kernel
theorem d_X8_passedBitsAt_5 : decode cX8_passedBitsAt 5 = .ok (.aload_n 0, 1) := by decide +kernel
theorem d_X8_passedBitsAt_6 : decode cX8_passedBitsAt 6 = .ok (.getfield 12, 3) := by decide +kernel
theorem d_X8_passedBitsAt_9 : decode cX8_passedBitsAt 9 = .ok (.getfield 144, 3) := by decide +kernel
theorem d_X8_passedBitsAt_12 : decode cX8_passedBitsAt 12 = .ok (.if_icmp .ge 43, 3) := by decide +kernel
theorem d_X8_passedBitsAt_15 : decode cX8_passedBitsAt 15 = .ok (.aload_n 0, 1) := by decide +kernel
theorem d_X8_passedBitsAt_16 : decode cX8_passedBitsAt 16 = .ok (.getfield 12, 3) := by decide +kernel
theorem d_X8_passedBitsAt_19 : decode cX8_passedBitsAt 19 = .ok (.getfield 147, 3) := by decide +kernel
theorem d_X8_passedBitsAt_22 : decode cX8_passedBitsAt 22 = .ok (.iload_n 3, 1) := by decide +kernel
theorem d_X8_passedBitsAt_23 : decode cX8_passedBitsAt 23 = .ok (.iaload, 1) := by decide +kernel
theorem d_X8_passedBitsAt_24 : decode cX8_passedBitsAt 24 = .ok (.iload_n 1, 1) := by decide +kernel
theorem d_X8_passedBitsAt_25 : decode cX8_passedBitsAt 25 = .ok (.if_icmp .ne 24, 3) := by decide +kernel
theorem d_X8_passedBitsAt_28 : decode cX8_passedBitsAt 28 = .ok (.aload_n 0, 1) := by decide +kernel
theorem d_X8_passedBitsAt_29 : decode cX8_passedBitsAt 29 = .ok (.iload_n 3, 1) := by decide +kernel
theorem d_X8_passedBitsAt_30 : decode cX8_passedBitsAt 30 = .ok (.aload_n 0, 1) := by decide +kernel
theorem d_X8_passedBitsAt_31 : decode cX8_passedBitsAt 31 = .ok (.getfield 12, 3) := by decide +kernel
theorem d_X8_passedBitsAt_34 : decode cX8_passedBitsAt 34 = .ok (.getfield 150, 3) := by decide +kernel
theorem d_X8_passedBitsAt_37 : decode cX8_passedBitsAt 37 = .ok (.invokevirtual 153, 3) := by decide +kernel
theorem d_X8_passedBitsAt_40 : decode cX8_passedBitsAt 40 = .ok (.ifCond .eq 9, 3) := by decide +kernel
theorem d_X8_passedBitsAt_43 : decode cX8_passedBitsAt 43 = .ok (.iload_n 2, 1) := by decide +kernel
theorem d_X8_passedBitsAt_44 : decode cX8_passedBitsAt 44 = .ok (.iconst 1, 1) := by decide +kernel
theorem d_X8_passedBitsAt_45 : decode cX8_passedBitsAt 45 = .ok (.iload_n 3, 1) := by decide +kernel
theorem d_X8_passedBitsAt_46 : decode cX8_passedBitsAt 46 = .ok (.ishl, 1) := by decide +kernel
theorem d_X8_passedBitsAt_47 : decode cX8_passedBitsAt 47 = .ok (.ior, 1) := by decide +kernel
theorem d_X8_passedBitsAt_48 : decode cX8_passedBitsAt 48 = .ok (.istore_n 2, 1) := by decide +kernel
theorem d_X8_passedBitsAt_49 : decode cX8_passedBitsAt 49 = .ok (.iinc 3 1, 3) := by decide +kernel
theorem d_X8_passedBitsAt_52 : decode cX8_passedBitsAt 52 = .ok (.goto (-48), 3) := by decide +kernel
theorem d_X8_passedBitsAt_55 : decode cX8_passedBitsAt 55 = .ok (.iload_n 2, 1) := by decide +kernel
theorem d_X8_passedBitsAt_56 : decode cX8_passedBitsAt 56 = .ok (.ireturn, 1) := by decide +kernel
set_option maxRecDepth 100000 in
theorem L_X8_passedBitsAt {p : Program} {l : Launch} {e : Env} {s : State} {m : MethodId} {args : Array Value} {below : List Frame} {meth : Method} {c : Code} {D : va_G} {ca : Nat → ClassId} {ad sx sy : Nat → Nat} {A : Nat → Prop} {Q : QT} (C0 : CX p s m args meth c cX8_passedBitsAt 4 yX8_passedBitsAt.cls D ca ad A) (hE : EX sx sy A s s.heap) (hr : meth.sig.returnType = (some .int)) (hno : ∀ x ∈ c.exceptionTable.toList, False) : R_X8_passedBitsAt (JW p l e { frames := 13, cells := 0, slots := 6 * 0, locals := 268 } s m args below meth c 4 D ca ad A (vx_MQ below (Qn D ca ad A Q) (Qx D ca ad A Q) args s 0 (6 * 0) A) gz gz true) Q := ⟨s_ic C0 (d_X8_passedBitsAt_0) hgz (s_isn C0 (d_X8_passedBitsAt_1) hgz (s_ic C0 (d_X8_passedBitsAt_2) hgz (s_isn C0 (d_X8_passedBitsAt_3) hgz (fun _ _ _ h => h)) (okn rfl))) (okn rfl),
  s_iln C0 (d_X8_passedBitsAt_4) hgz (s_aln C0 (d_X8_passedBitsAt_5) hgz (s_gm C0 (j := 0) (c0 := 8) rfl gX8 (by decide) rfl rfl wg236 (d_X8_passedBitsAt_6) hgz (s_giN C0 (j := 10) (c0 := 6) rfl gX6 (by decide) rfl (by decide) wn118 (d_X8_passedBitsAt_9) hgz (s_cge C0 (d_X8_passedBitsAt_12) (by decide) hgz hgz (fun _ _ _ h => h) (s_aln C0 (d_X8_passedBitsAt_15) hgz (s_gm C0 (j := 0) (c0 := 8) rfl gX8 (by decide) rfl rfl wg236 (d_X8_passedBitsAt_16) hgz (s_grN C0 (j := 11) (c0 := 6) rfl gX6 (by decide) rfl rfl wn122 (d_X8_passedBitsAt_19) hgz (s_iln C0 (d_X8_passedBitsAt_22) hgz (s_ia C0 (d_X8_passedBitsAt_23) hgz (s_iln C0 (d_X8_passedBitsAt_24) hgz (s_cne C0 (d_X8_passedBitsAt_25) (by decide) hgz hgz (fun _ _ _ h => h) (s_aln C0 (d_X8_passedBitsAt_28) hgz (s_iln C0 (d_X8_passedBitsAt_29) hgz (s_aln C0 (d_X8_passedBitsAt_30) hgz (s_gm C0 (j := 0) (c0 := 8) rfl gX8 (by decide) rfl rfl wg236 (d_X8_passedBitsAt_31) hgz (s_giN C0 (j := 14) (c0 := 6) rfl gX6 (by decide) rfl (by decide) wn133 (d_X8_passedBitsAt_34) hgz (s_callV C0 hE (c_X8_isPassed l) wg1057 wg1054 wg1056 ws67 wg7 ⟨by decide, by decide⟩ (by decide +kernel) (c0 := 8) rfl ⟨by decide, by decide⟩ ⟨by decide, by decide⟩ (d_X8_passedBitsAt_37) (fun x hx => (hno x hx).elim) ⟨by decide, by decide⟩ ⟨by decide, by decide⟩ (s_zeq C0 (d_X8_passedBitsAt_40) (by decide) hgz hgz (fun _ _ _ h => h) (s_iln C0 (d_X8_passedBitsAt_43) hgz (s_ic C0 (d_X8_passedBitsAt_44) hgz (s_iln C0 (d_X8_passedBitsAt_45) hgz (s_shl C0 (d_X8_passedBitsAt_46) hgz (s_or C0 (d_X8_passedBitsAt_47) hgz (s_isn C0 (d_X8_passedBitsAt_48) hgz (fun _ _ _ h => h))))) (okn rfl))))))))))))))))))))),
  s_inc C0 (d_X8_passedBitsAt_49) hgz (s_goto C0 (tgt := 4) (d_X8_passedBitsAt_52) (by decide) hgz (fun _ _ _ h => h)),
  s_iln C0 (d_X8_passedBitsAt_55) hgz (s_ri C0 hr (d_X8_passedBitsAt_56) ⟨by decide, by decide⟩)⟩
theorem c_X8_passedBitsAt (l : Launch) : Ctr l yX8_passedBitsAt cX8_passedBitsAt 4 (some .int) 13 268 0 (fun sx => (nf G_X8_passedBitsAt)) := ctr_of (by decide) gz gz ⟨rfl, rfl⟩ (fun p e s m args below meth c D ca ad sx sy A Q as M C0 hE hr hno hF => P_X8_passedBitsAt (L_X8_passedBitsAt C0 hE hr hno) hF)
theorem d_X9_open_0 : decode cX9_open 0 = .ok (.aload_n 0, 1) := by decide +kernel
theorem d_X9_open_1 : decode cX9_open 1 = .ok (.iload_n 1, 1) := by decide +kernel
theorem d_X9_open_2 : decode cX9_open 2 = .ok (.sipush 600, 3) := by decide +kernel
theorem d_X9_open_5 : decode cX9_open 5 = .ok (.invokestatic 25, 3) := by decide +kernel
theorem d_X9_open_8 : decode cX9_open 8 = .ok (.putfield 31, 3) := by decide +kernel
theorem d_X9_open_11 : decode cX9_open 11 = .ok (.aload_n 0, 1) := by decide +kernel
theorem d_X9_open_12 : decode cX9_open 12 = .ok (.iconst 0, 1) := by decide +kernel
theorem d_X9_open_13 : decode cX9_open 13 = .ok (.putfield 22, 3) := by decide +kernel
theorem d_X9_open_16 : decode cX9_open 16 = .ok (.aload_n 0, 1) := by decide +kernel
theorem d_X9_open_17 : decode cX9_open 17 = .ok (.iconst 0, 1) := by decide +kernel
theorem d_X9_open_18 : decode cX9_open 18 = .ok (.putfield 34, 3) := by decide +kernel
theorem d_X9_open_21 : decode cX9_open 21 = .ok (.aload_n 0, 1) := by decide +kernel
theorem d_X9_open_22 : decode cX9_open 22 = .ok (.iconst 0, 1) := by decide +kernel
theorem d_X9_open_23 : decode cX9_open 23 = .ok (.putfield 37, 3) := by decide +kernel
theorem d_X9_open_26 : decode cX9_open 26 = .ok (.aload_n 0, 1) := by decide +kernel
theorem d_X9_open_27 : decode cX9_open 27 = .ok (.iconst 0, 1) := by decide +kernel
theorem d_X9_open_28 : decode cX9_open 28 = .ok (.putfield 15, 3) := by decide +kernel
theorem d_X9_open_31 : decode cX9_open 31 = .ok (.aload_n 0, 1) := by decide +kernel
theorem d_X9_open_32 : decode cX9_open 32 = .ok (.iconst (-1), 1) := by decide +kernel
theorem d_X9_open_33 : decode cX9_open 33 = .ok (.putfield 19, 3) := by decide +kernel
theorem d_X9_open_36 : decode cX9_open 36 = .ok (.return_, 1) := by decide +kernel
set_option maxRecDepth 100000 in
theorem L_X9_open {p : Program} {l : Launch} {e : Env} {s : State} {m : MethodId} {args : Array Value} {below : List Frame} {meth : Method} {c : Code} {D : va_G} {ca : Nat → ClassId} {ad sx sy : Nat → Nat} {A : Nat → Prop} {Q : QT} (C0 : CX p s m args meth c cX9_open 2 yX9_open.cls D ca ad A) (hE : EX sx sy A s s.heap) (hr : meth.sig.returnType = none) (hno : ∀ x ∈ c.exceptionTable.toList, False) : R_X9_open (JW p l e { frames := 11, cells := 0, slots := 6 * 0, locals := 221 } s m args below meth c 2 D ca ad A (vx_MQ below (Qn D ca ad A Q) (Qx D ca ad A Q) args s 0 (6 * 0) A) gz gz true) Q := s_aln C0 (d_X9_open_0) hgz (s_iln C0 (d_X9_open_1) hgz (s_si C0 (d_X9_open_2) hgz (s_callS C0 hE (c_J9_min_7cf53 l) wg636 wg634 wg635 wg17 ⟨by decide, by decide⟩ (by decide +kernel) ⟨by decide, by decide⟩ ⟨by decide, by decide⟩ (d_X9_open_5) (fun x hx => (hno x hx).elim) ⟨by decide, by decide⟩ ⟨by decide, by decide⟩ (s_pi C0 (j := 2) (c0 := 9) rfl gX9 tyX9_ok nmX9 (by decide) rfl (by decide) rfl rfl wg42 (d_X9_open_8) hgz (s_aln C0 (d_X9_open_11) hgz (s_ic C0 (d_X9_open_12) hgz (s_pi C0 (j := 1) (c0 := 9) rfl gX9 tyX9_ok nmX9 (by decide) rfl (by decide) rfl rfl wg41 (d_X9_open_13) hgz (s_aln C0 (d_X9_open_16) hgz (s_ic C0 (d_X9_open_17) hgz (s_pi C0 (j := 3) (c0 := 9) rfl gX9 tyX9_ok nmX9 (by decide) rfl (by decide) rfl rfl wg43 (d_X9_open_18) hgz (s_aln C0 (d_X9_open_21) hgz (s_ic C0 (d_X9_open_22) hgz (s_pi C0 (j := 4) (c0 := 9) rfl gX9 tyX9_ok nmX9 (by decide) rfl (by decide) rfl rfl wg44 (d_X9_open_23) hgz (s_aln C0 (d_X9_open_26) hgz (s_ic C0 (d_X9_open_27) hgz (s_pi C0 (j := 5) (c0 := 9) rfl gX9 tyX9_ok nmX9 (by decide) rfl (by decide) rfl rfl wg45 (d_X9_open_28) hgz (s_aln C0 (d_X9_open_31) hgz (s_ic C0 (d_X9_open_32) hgz (s_pi C0 (j := 6) (c0 := 9) rfl gX9 tyX9_ok nmX9 (by decide) rfl (by decide) rfl rfl wg47 (d_X9_open_33) hgz (s_rv C0 hr (d_X9_open_36) ⟨by decide, by decide⟩)) (okn rfl)))) (okn rfl)))) (okn rfl)))) (okn rfl)))) (okn rfl))))) (okn rfl) rfl))
theorem c_X9_open (l : Launch) : Ctr l yX9_open cX9_open 2 none 11 221 0 (fun sx => (nf G_X9_open)) := ctr_of (by decide) gz gz ⟨rfl, rfl⟩ (fun p e s m args below meth c D ca ad sx sy A Q as M C0 hE hr hno hF => P_X9_open (L_X9_open C0 hE hr hno) hF)
theorem d_X9_readStop_0 : decode cX9_readStop 0 = .ok (.aload_n 0, 1) := by decide +kernel
theorem d_X9_readStop_1 : decode cX9_readStop 1 = .ok (.invokevirtual 40, 3) := by decide +kernel
theorem d_X9_readStop_4 : decode cX9_readStop 4 = .ok (.ifCond .ne 4, 3) := by decide +kernel
theorem d_X9_readStop_7 : decode cX9_readStop 7 = .ok (.return_, 1) := by decide +kernel
theorem d_X9_readStop_8 : decode cX9_readStop 8 = .ok (.aload_n 0, 1) := by decide +kernel
theorem d_X9_readStop_9 : decode cX9_readStop 9 = .ok (.invokevirtual 44, 3) := by decide +kernel
theorem d_X9_readStop_12 : decode cX9_readStop 12 = .ok (.aload_n 0, 1) := by decide +kernel
theorem d_X9_readStop_13 : decode cX9_readStop 13 = .ok (.getfield 34, 3) := by decide +kernel
theorem d_X9_readStop_16 : decode cX9_readStop 16 = .ok (.aload_n 0, 1) := by decide +kernel
theorem d_X9_readStop_17 : decode cX9_readStop 17 = .ok (.getfield 31, 3) := by decide +kernel
theorem d_X9_readStop_20 : decode cX9_readStop 20 = .ok (.if_icmp .ge 30, 3) := by decide +kernel
theorem d_X9_readStop_23 : decode cX9_readStop 23 = .ok (.aload_n 0, 1) := by decide +kernel
theorem d_X9_readStop_24 : decode cX9_readStop 24 = .ok (.getfield 9, 3) := by decide +kernel
theorem d_X9_readStop_27 : decode cX9_readStop 27 = .ok (.aload_n 0, 1) := by decide +kernel
theorem d_X9_readStop_28 : decode cX9_readStop 28 = .ok (.getfield 34, 3) := by decide +kernel
theorem d_X9_readStop_31 : decode cX9_readStop 31 = .ok (.baload, 1) := by decide +kernel
theorem d_X9_readStop_32 : decode cX9_readStop 32 = .ok (.bipush 59, 2) := by decide +kernel
theorem d_X9_readStop_34 : decode cX9_readStop 34 = .ok (.if_icmp .ne 16, 3) := by decide +kernel
theorem d_X9_readStop_37 : decode cX9_readStop 37 = .ok (.aload_n 0, 1) := by decide +kernel
theorem d_X9_readStop_38 : decode cX9_readStop 38 = .ok (.dup, 1) := by decide +kernel
theorem d_X9_readStop_39 : decode cX9_readStop 39 = .ok (.getfield 34, 3) := by decide +kernel
theorem d_X9_readStop_42 : decode cX9_readStop 42 = .ok (.iconst 1, 1) := by decide +kernel
theorem d_X9_readStop_43 : decode cX9_readStop 43 = .ok (.iadd, 1) := by decide +kernel
theorem d_X9_readStop_44 : decode cX9_readStop 44 = .ok (.putfield 34, 3) := by decide +kernel
theorem d_X9_readStop_47 : decode cX9_readStop 47 = .ok (.goto 8, 3) := by decide +kernel
theorem d_X9_readStop_50 : decode cX9_readStop 50 = .ok (.aload_n 0, 1) := by decide +kernel
theorem d_X9_readStop_51 : decode cX9_readStop 51 = .ok (.iconst 1, 1) := by decide +kernel
theorem d_X9_readStop_52 : decode cX9_readStop 52 = .ok (.invokevirtual 58, 3) := by decide +kernel
theorem d_X9_readStop_55 : decode cX9_readStop 55 = .ok (.return_, 1) := by decide +kernel
set_option maxRecDepth 100000 in
theorem L_X9_readStop {p : Program} {l : Launch} {e : Env} {s : State} {m : MethodId} {args : Array Value} {below : List Frame} {meth : Method} {c : Code} {D : va_G} {ca : Nat → ClassId} {ad sx sy : Nat → Nat} {A : Nat → Prop} {Q : QT} (C0 : CX p s m args meth c cX9_readStop 1 yX9_readStop.cls D ca ad A) (hE : EX sx sy A s s.heap) (hr : meth.sig.returnType = none) (hno : ∀ x ∈ c.exceptionTable.toList, False) : R_X9_readStop (JW p l e { frames := 12, cells := 0, slots := 6 * 0, locals := 241 } s m args below meth c 1 D ca ad A (vx_MQ below (Qn D ca ad A Q) (Qx D ca ad A Q) args s 0 (6 * 0) A) gz gz true) Q := ⟨s_aln C0 (d_X9_readStop_0) hgz (s_callV C0 hE (c_X9_isSound l) wg648 wg645 wg647 ws18 wg2 ⟨by decide, by decide⟩ (by decide +kernel) (c0 := 9) rfl ⟨by decide, by decide⟩ ⟨by decide, by decide⟩ (d_X9_readStop_1) (fun x hx => (hno x hx).elim) ⟨by decide, by decide⟩ ⟨by decide, by decide⟩ (s_zne C0 (d_X9_readStop_4) (by decide) hgz hgz (fun _ _ _ h => h) (s_rv C0 hr (d_X9_readStop_7) ⟨by decide, by decide⟩))),
  s_aln C0 (d_X9_readStop_8) hgz (s_callV C0 hE (c_X9_skipBlanks l) wg652 wg649 wg651 ws19 wg2 ⟨by decide, by decide⟩ (by decide +kernel) (c0 := 9) rfl ⟨by decide, by decide⟩ ⟨by decide, by decide⟩ (d_X9_readStop_9) (fun x hx => (hno x hx).elim) ⟨by decide, by decide⟩ ⟨by decide, by decide⟩ (s_aln C0 (d_X9_readStop_12) hgz (s_gi C0 (j := 3) (c0 := 9) rfl gX9 (by decide) rfl (by decide) wg43 (d_X9_readStop_13) hgz (s_aln C0 (d_X9_readStop_16) hgz (s_gi C0 (j := 2) (c0 := 9) rfl gX9 (by decide) rfl (by decide) wg42 (d_X9_readStop_17) hgz (s_cge C0 (d_X9_readStop_20) (by decide) hgz hgz (fun _ _ _ h => h) (s_aln C0 (d_X9_readStop_23) hgz (s_gr C0 (j := 0) (c0 := 9) rfl gX9 (by decide) rfl rfl wg39 (d_X9_readStop_24) hgz (s_aln C0 (d_X9_readStop_27) hgz (s_gi C0 (j := 3) (c0 := 9) rfl gX9 (by decide) rfl (by decide) wg43 (d_X9_readStop_28) hgz (s_ba C0 (d_X9_readStop_31) hgz (s_bi C0 (d_X9_readStop_32) hgz (s_cne C0 (d_X9_readStop_34) (by decide) hgz hgz (fun _ _ _ h => h) (s_aln C0 (d_X9_readStop_37) hgz (s_dup C0 (d_X9_readStop_38) hgz (s_gi C0 (j := 3) (c0 := 9) rfl gX9 (by decide) rfl (by decide) wg43 (d_X9_readStop_39) hgz (s_ic C0 (d_X9_readStop_42) hgz (s_add C0 (d_X9_readStop_43) hgz (s_pi C0 (j := 3) (c0 := 9) rfl gX9 tyX9_ok nmX9 (by decide) rfl (by decide) rfl rfl wg43 (d_X9_readStop_44) hgz (s_goto C0 (tgt := 55) (d_X9_readStop_47) (by decide) hgz (fun _ _ _ h => h)))) (okn rfl)))))) (okn rfl) rfl)))))))))))),
  s_aln C0 (d_X9_readStop_50) hgz (s_ic C0 (d_X9_readStop_51) hgz (s_callV C0 hE (c_X9_refuse l) wg720 wg730 wg719 ws23 wg2 ⟨by decide, by decide⟩ (by decide +kernel) (c0 := 9) rfl ⟨by decide, by decide⟩ ⟨by decide, by decide⟩ (d_X9_readStop_52) (fun x hx => (hno x hx).elim) ⟨by decide, by decide⟩ ⟨by decide, by decide⟩ (fun _ _ _ h => h)) (okn rfl)),
  s_rv C0 hr (d_X9_readStop_55) ⟨by decide, by decide⟩⟩
theorem c_X9_readStop (l : Launch) : Ctr l yX9_readStop cX9_readStop 1 none 12 241 0 (fun sx => (nf G_X9_readStop)) := ctr_of (by decide) gz gz ⟨rfl, rfl⟩ (fun p e s m args below meth c D ca ad sx sy A Q as M C0 hE hr hno hF => P_X9_readStop (L_X9_readStop C0 hE hr hno) hF)
theorem d_X9_readWord_0 : decode cX9_readWord 0 = .ok (.aload_n 0, 1) := by decide +kernel
theorem d_X9_readWord_1 : decode cX9_readWord 1 = .ok (.invokevirtual 40, 3) := by decide +kernel
theorem d_X9_readWord_4 : decode cX9_readWord 4 = .ok (.ifCond .ne 4, 3) := by decide +kernel
theorem d_X9_readWord_7 : decode cX9_readWord 7 = .ok (.return_, 1) := by decide +kernel
theorem d_X9_readWord_8 : decode cX9_readWord 8 = .ok (.aload_n 0, 1) := by decide +kernel
theorem d_X9_readWord_9 : decode cX9_readWord 9 = .ok (.invokevirtual 44, 3) := by decide +kernel
theorem d_X9_readWord_12 : decode cX9_readWord 12 = .ok (.aload_n 0, 1) := by decide +kernel
theorem d_X9_readWord_13 : decode cX9_readWord 13 = .ok (.getfield 34, 3) := by decide +kernel
theorem d_X9_readWord_16 : decode cX9_readWord 16 = .ok (.aload_n 0, 1) := by decide +kernel
theorem d_X9_readWord_17 : decode cX9_readWord 17 = .ok (.getfield 31, 3) := by decide +kernel
theorem d_X9_readWord_20 : decode cX9_readWord 20 = .ok (.if_icmp .ge 44, 3) := by decide +kernel
theorem d_X9_readWord_23 : decode cX9_readWord 23 = .ok (.aload_n 0, 1) := by decide +kernel
theorem d_X9_readWord_24 : decode cX9_readWord 24 = .ok (.getfield 9, 3) := by decide +kernel
theorem d_X9_readWord_27 : decode cX9_readWord 27 = .ok (.aload_n 0, 1) := by decide +kernel
theorem d_X9_readWord_28 : decode cX9_readWord 28 = .ok (.getfield 34, 3) := by decide +kernel
theorem d_X9_readWord_31 : decode cX9_readWord 31 = .ok (.baload, 1) := by decide +kernel
theorem d_X9_readWord_32 : decode cX9_readWord 32 = .ok (.bipush 97, 2) := by decide +kernel
theorem d_X9_readWord_34 : decode cX9_readWord 34 = .ok (.if_icmp .lt 30, 3) := by decide +kernel
theorem d_X9_readWord_37 : decode cX9_readWord 37 = .ok (.aload_n 0, 1) := by decide +kernel
theorem d_X9_readWord_38 : decode cX9_readWord 38 = .ok (.getfield 9, 3) := by decide +kernel
theorem d_X9_readWord_41 : decode cX9_readWord 41 = .ok (.aload_n 0, 1) := by decide +kernel
theorem d_X9_readWord_42 : decode cX9_readWord 42 = .ok (.getfield 34, 3) := by decide +kernel
theorem d_X9_readWord_45 : decode cX9_readWord 45 = .ok (.baload, 1) := by decide +kernel
theorem d_X9_readWord_46 : decode cX9_readWord 46 = .ok (.bipush 122, 2) := by decide +kernel
theorem d_X9_readWord_48 : decode cX9_readWord 48 = .ok (.if_icmp .gt 16, 3) := by decide +kernel
theorem d_X9_readWord_51 : decode cX9_readWord 51 = .ok (.aload_n 0, 1) := by decide +kernel
theorem d_X9_readWord_52 : decode cX9_readWord 52 = .ok (.dup, 1) := by decide +kernel
theorem d_X9_readWord_53 : decode cX9_readWord 53 = .ok (.getfield 34, 3) := by decide +kernel
theorem d_X9_readWord_56 : decode cX9_readWord 56 = .ok (.iconst 1, 1) := by decide +kernel
theorem d_X9_readWord_57 : decode cX9_readWord 57 = .ok (.iadd, 1) := by decide +kernel
theorem d_X9_readWord_58 : decode cX9_readWord 58 = .ok (.putfield 34, 3) := by decide +kernel
theorem d_X9_readWord_61 : decode cX9_readWord 61 = .ok (.goto (-49), 3) := by decide +kernel
theorem d_X9_readWord_64 : decode cX9_readWord 64 = .ok (.return_, 1) := by decide +kernel
set_option maxRecDepth 100000 in
theorem L_X9_readWord {p : Program} {l : Launch} {e : Env} {s : State} {m : MethodId} {args : Array Value} {below : List Frame} {meth : Method} {c : Code} {D : va_G} {ca : Nat → ClassId} {ad sx sy : Nat → Nat} {A : Nat → Prop} {Q : QT} (C0 : CX p s m args meth c cX9_readWord 1 yX9_readWord.cls D ca ad A) (hE : EX sx sy A s s.heap) (hr : meth.sig.returnType = none) (hno : ∀ x ∈ c.exceptionTable.toList, False) : R_X9_readWord (JW p l e { frames := 11, cells := 0, slots := 6 * 0, locals := 220 } s m args below meth c 1 D ca ad A (vx_MQ below (Qn D ca ad A Q) (Qx D ca ad A Q) args s 0 (6 * 0) A) gz gz true) Q := ⟨s_aln C0 (d_X9_readWord_0) hgz (s_callV C0 hE (c_X9_isSound l) wg648 wg645 wg647 ws18 wg2 ⟨by decide, by decide⟩ (by decide +kernel) (c0 := 9) rfl ⟨by decide, by decide⟩ ⟨by decide, by decide⟩ (d_X9_readWord_1) (fun x hx => (hno x hx).elim) ⟨by decide, by decide⟩ ⟨by decide, by decide⟩ (s_zne C0 (d_X9_readWord_4) (by decide) hgz hgz (fun _ _ _ h => h) (s_rv C0 hr (d_X9_readWord_7) ⟨by decide, by decide⟩))),
  s_aln C0 (d_X9_readWord_8) hgz (s_callV C0 hE (c_X9_skipBlanks l) wg652 wg649 wg651 ws19 wg2 ⟨by decide, by decide⟩ (by decide +kernel) (c0 := 9) rfl ⟨by decide, by decide⟩ ⟨by decide, by decide⟩ (d_X9_readWord_9) (fun x hx => (hno x hx).elim) ⟨by decide, by decide⟩ ⟨by decide, by decide⟩ (fun _ _ _ h => h)),
  s_aln C0 (d_X9_readWord_12) hgz (s_gi C0 (j := 3) (c0 := 9) rfl gX9 (by decide) rfl (by decide) wg43 (d_X9_readWord_13) hgz (s_aln C0 (d_X9_readWord_16) hgz (s_gi C0 (j := 2) (c0 := 9) rfl gX9 (by decide) rfl (by decide) wg42 (d_X9_readWord_17) hgz (s_cge C0 (d_X9_readWord_20) (by decide) hgz hgz (fun _ _ _ h => h) (s_aln C0 (d_X9_readWord_23) hgz (s_gr C0 (j := 0) (c0 := 9) rfl gX9 (by decide) rfl rfl wg39 (d_X9_readWord_24) hgz (s_aln C0 (d_X9_readWord_27) hgz (s_gi C0 (j := 3) (c0 := 9) rfl gX9 (by decide) rfl (by decide) wg43 (d_X9_readWord_28) hgz (s_ba C0 (d_X9_readWord_31) hgz (s_bi C0 (d_X9_readWord_32) hgz (s_clt C0 (d_X9_readWord_34) (by decide) hgz hgz (fun _ _ _ h => h) (s_aln C0 (d_X9_readWord_37) hgz (s_gr C0 (j := 0) (c0 := 9) rfl gX9 (by decide) rfl rfl wg39 (d_X9_readWord_38) hgz (s_aln C0 (d_X9_readWord_41) hgz (s_gi C0 (j := 3) (c0 := 9) rfl gX9 (by decide) rfl (by decide) wg43 (d_X9_readWord_42) hgz (s_ba C0 (d_X9_readWord_45) hgz (s_bi C0 (d_X9_readWord_46) hgz (s_cgt C0 (d_X9_readWord_48) (by decide) hgz hgz (fun _ _ _ h => h) (s_aln C0 (d_X9_readWord_51) hgz (s_dup C0 (d_X9_readWord_52) hgz (s_gi C0 (j := 3) (c0 := 9) rfl gX9 (by decide) rfl (by decide) wg43 (d_X9_readWord_53) hgz (s_ic C0 (d_X9_readWord_56) hgz (s_add C0 (d_X9_readWord_57) hgz (s_pi C0 (j := 3) (c0 := 9) rfl gX9 tyX9_ok nmX9 (by decide) rfl (by decide) rfl rfl wg43 (d_X9_readWord_58) hgz (s_goto C0 (tgt := 12) (d_X9_readWord_61) (by decide) hgz (fun _ _ _ h => h)))) (okn rfl)))))) (okn rfl) rfl))))))) (okn rfl) rfl)))))))))),
  s_rv C0 hr (d_X9_readWord_64) ⟨by decide, by decide⟩⟩
theorem c_X9_readWord (l : Launch) : Ctr l yX9_readWord cX9_readWord 1 none 11 220 0 (fun sx => (nf G_X9_readWord)) := ctr_of (by decide) gz gz ⟨rfl, rfl⟩ (fun p e s m args below meth c D ca ad sx sy A Q as M C0 hE hr hno hF => P_X9_readWord (L_X9_readWord C0 hE hr hno) hF)
