theorem d_X11_winsBy_0 : decode cX11_winsBy 0 = .ok (.iconst 0, 1) := by decide +kernel
theorem d_X11_winsBy_1 : decode cX11_winsBy 1 = .ok (.istore_n 2, 1) := by decide +kernel
theorem d_X11_winsBy_2 : decode cX11_winsBy 2 = .ok (.iconst 0, 1) := by decide +kernel
theorem d_X11_winsBy_3 : decode cX11_winsBy 3 = .ok (.istore_n 3, 1) := by decide +kernel
theorem d_X11_winsBy_4 : decode cX11_winsBy 4 = .ok (.iload_n 3, 1) := by decide +kernel
theorem d_X11_winsBy_5 : decode cX11_winsBy 5 = .ok (.aload_n 0, 1) := by decide +kernel
theorem d_X11_winsBy_6 : decode cX11_winsBy 6 = .ok (.getfield 23, 3) := by decide +kernel
theorem d_X11_winsBy_9 : decode cX11_winsBy 9 = .ok (.iconst 1, 1) := by decide +kernel
theorem d_X11_winsBy_10 : decode cX11_winsBy 10 = .ok (.iaload, 1) := by decide +kernel
theorem d_X11_winsBy_11 : decode cX11_winsBy 11 = .ok (.if_icmp .ge 47, 3) := by decide +kernel
theorem d_X11_winsBy_14 : decode cX11_winsBy 14 = .ok (.iload_n 2, 1) := by decide +kernel
theorem d_X11_winsBy_15 : decode cX11_winsBy 15 = .ok (.iload_n 1, 1) := by decide +kernel
theorem d_X11_winsBy_16 : decode cX11_winsBy 16 = .ok (.aload_n 0, 1) := by decide +kernel
theorem d_X11_winsBy_17 : decode cX11_winsBy 17 = .ok (.getfield 31, 3) := by decide +kernel
theorem d_X11_winsBy_20 : decode cX11_winsBy 20 = .ok (.aload_n 0, 1) := by decide +kernel
theorem d_X11_winsBy_21 : decode cX11_winsBy 21 = .ok (.getfield 37, 3) := by decide +kernel
theorem d_X11_winsBy_24 : decode cX11_winsBy 24 = .ok (.iload_n 3, 1) := by decide +kernel
theorem d_X11_winsBy_25 : decode cX11_winsBy 25 = .ok (.aaload, 1) := by decide +kernel
theorem d_X11_winsBy_26 : decode cX11_winsBy 26 = .ok (.iconst 0, 1) := by decide +kernel
theorem d_X11_winsBy_27 : decode cX11_winsBy 27 = .ok (.iaload, 1) := by decide +kernel
theorem d_X11_winsBy_28 : decode cX11_winsBy 28 = .ok (.aaload, 1) := by decide +kernel
theorem d_X11_winsBy_29 : decode cX11_winsBy 29 = .ok (.iconst 0, 1) := by decide +kernel
theorem d_X11_winsBy_30 : decode cX11_winsBy 30 = .ok (.iaload, 1) := by decide +kernel
theorem d_X11_winsBy_31 : decode cX11_winsBy 31 = .ok (.ishr, 1) := by decide +kernel
theorem d_X11_winsBy_32 : decode cX11_winsBy 32 = .ok (.iconst 1, 1) := by decide +kernel
theorem d_X11_winsBy_33 : decode cX11_winsBy 33 = .ok (.iand, 1) := by decide +kernel
theorem d_X11_winsBy_34 : decode cX11_winsBy 34 = .ok (.iconst 1, 1) := by decide +kernel
theorem d_X11_winsBy_35 : decode cX11_winsBy 35 = .ok (.if_icmp .ne 14, 3) := by decide +kernel
theorem d_X11_winsBy_38 : decode cX11_winsBy 38 = .ok (.aload_n 0, 1) := by decide +kernel
theorem d_X11_winsBy_39 : decode cX11_winsBy 39 = .ok (.getfield 37, 3) := by decide +kernel
theorem d_X11_winsBy_42 : decode cX11_winsBy 42 = .ok (.iload_n 3, 1) := by decide +kernel
theorem d_X11_winsBy_43 : decode cX11_winsBy 43 = .ok (.aaload, 1) := by decide +kernel
theorem d_X11_winsBy_44 : decode cX11_winsBy 44 = .ok (.iconst 1, 1) := by decide +kernel
theorem d_X11_winsBy_45 : decode cX11_winsBy 45 = .ok (.iaload, 1) := by decide +kernel
theorem d_X11_winsBy_46 : decode cX11_winsBy 46 = .ok (.goto 4, 3) := by decide +kernel
theorem d_X11_winsBy_49 : decode cX11_winsBy 49 = .ok (.iconst 0, 1) := by decide +kernel
theorem d_X11_winsBy_50 : decode cX11_winsBy 50 = .ok (.iadd, 1) := by decide +kernel
theorem d_X11_winsBy_51 : decode cX11_winsBy 51 = .ok (.istore_n 2, 1) := by decide +kernel
theorem d_X11_winsBy_52 : decode cX11_winsBy 52 = .ok (.iinc 3 1, 3) := by decide +kernel
theorem d_X11_winsBy_55 : decode cX11_winsBy 55 = .ok (.goto (-51), 3) := by decide +kernel
theorem d_X11_winsBy_58 : decode cX11_winsBy 58 = .ok (.iconst 2, 1) := by decide +kernel
theorem d_X11_winsBy_59 : decode cX11_winsBy 59 = .ok (.iload_n 2, 1) := by decide +kernel
theorem d_X11_winsBy_60 : decode cX11_winsBy 60 = .ok (.imul, 1) := by decide +kernel
theorem d_X11_winsBy_61 : decode cX11_winsBy 61 = .ok (.aload_n 0, 1) := by decide +kernel
theorem d_X11_winsBy_62 : decode cX11_winsBy 62 = .ok (.invokevirtual 290, 3) := by decide +kernel
theorem d_X11_winsBy_65 : decode cX11_winsBy 65 = .ok (.if_icmp .le 7, 3) := by decide +kernel
theorem d_X11_winsBy_68 : decode cX11_winsBy 68 = .ok (.iconst 1, 1) := by decide +kernel
theorem d_X11_winsBy_69 : decode cX11_winsBy 69 = .ok (.goto 4, 3) := by decide +kernel
theorem d_X11_winsBy_72 : decode cX11_winsBy 72 = .ok (.iconst 0, 1) := by decide +kernel
theorem d_X11_winsBy_73 : decode cX11_winsBy 73 = .ok (.ireturn, 1) := by decide +kernel
set_option maxRecDepth 100000 in
theorem L_X11_winsBy {p : Program} {l : Launch} {e : Env} {s : State} {m : MethodId} {args : Array Value} {below : List Frame} {meth : Method} {c : Code} {D : va_G} {ca : Nat → ClassId} {ad sx sy : Nat → Nat} {A : Nat → Prop} {Q : QT} (C0 : CX p s m args meth c cX11_winsBy 4 yX11_winsBy.cls D ca ad A) (hE : EX sx sy A s s.heap) (hr : meth.sig.returnType = (some .boolean)) (hno : ∀ x ∈ c.exceptionTable.toList, False) : R_X11_winsBy (JW p l e { frames := 11, cells := 0, slots := 6 * 0, locals := 222 } s m args below meth c 4 D ca ad A (vx_MQ below (Qn D ca ad A Q) (Qx D ca ad A Q) args s 0 (6 * 0) A) gz gz true) Q := ⟨s_ic C0 (d_X11_winsBy_0) hgz (s_isn C0 (d_X11_winsBy_1) hgz (s_ic C0 (d_X11_winsBy_2) hgz (s_isn C0 (d_X11_winsBy_3) hgz (fun _ _ _ h => h)) (okn rfl))) (okn rfl),
  s_iln C0 (d_X11_winsBy_4) hgz (s_aln C0 (d_X11_winsBy_5) hgz (s_gr C0 (j := 11) (c0 := 11) rfl gX11 (by decide) rfl rfl wg1212 (d_X11_winsBy_6) hgz (s_ic C0 (d_X11_winsBy_9) hgz (s_ia C0 (d_X11_winsBy_10) hgz (s_cge C0 (d_X11_winsBy_11) (by decide) hgz hgz (fun _ _ _ h => h) (s_iln C0 (d_X11_winsBy_14) hgz (s_iln C0 (d_X11_winsBy_15) hgz (s_aln C0 (d_X11_winsBy_16) hgz (s_gr C0 (j := 13) (c0 := 11) rfl gX11 (by decide) rfl rfl wg1214 (d_X11_winsBy_17) hgz (s_aln C0 (d_X11_winsBy_20) hgz (s_gr C0 (j := 15) (c0 := 11) rfl gX11 (by decide) rfl rfl wg1216 (d_X11_winsBy_21) hgz (s_iln C0 (d_X11_winsBy_24) hgz (s_aa C0 (by decide) (by decide) rfl rfl (d_X11_winsBy_25) hgz (s_ic C0 (d_X11_winsBy_26) hgz (s_ia C0 (d_X11_winsBy_27) hgz (s_aa C0 (by decide) (by decide) rfl rfl (d_X11_winsBy_28) hgz (s_ic C0 (d_X11_winsBy_29) hgz (s_ia C0 (d_X11_winsBy_30) hgz (s_shr C0 (d_X11_winsBy_31) hgz (s_ic C0 (d_X11_winsBy_32) hgz (s_and C0 (d_X11_winsBy_33) hgz (s_ic C0 (d_X11_winsBy_34) hgz (s_cne C0 (d_X11_winsBy_35) (by decide) hgz hgz (fun _ _ _ h => h) (s_aln C0 (d_X11_winsBy_38) hgz (s_gr C0 (j := 15) (c0 := 11) rfl gX11 (by decide) rfl rfl wg1216 (d_X11_winsBy_39) hgz (s_iln C0 (d_X11_winsBy_42) hgz (s_aa C0 (by decide) (by decide) rfl rfl (d_X11_winsBy_43) hgz (s_ic C0 (d_X11_winsBy_44) hgz (s_ia C0 (d_X11_winsBy_45) hgz (s_goto C0 (tgt := 50) (d_X11_winsBy_46) (by decide) hgz (fun _ _ _ h => h))) (okn rfl))))))) (okn rfl))) (okn rfl)))) (okn rfl)))) (okn rfl)))))))))))) (okn rfl)))),
  s_ic C0 (d_X11_winsBy_49) hgz (fun _ _ _ h => h) (okn rfl),
  s_add C0 (d_X11_winsBy_50) hgz (s_isn C0 (d_X11_winsBy_51) hgz (s_inc C0 (d_X11_winsBy_52) hgz (s_goto C0 (tgt := 4) (d_X11_winsBy_55) (by decide) hgz (fun _ _ _ h => h)))),
  s_ic C0 (d_X11_winsBy_58) hgz (s_iln C0 (d_X11_winsBy_59) hgz (s_mul C0 (d_X11_winsBy_60) hgz (s_aln C0 (d_X11_winsBy_61) hgz (s_callV C0 hE (c_X11_all l) wg1574 wg1571 wg1573 ws114 wg12 ⟨by decide, by decide⟩ (by decide +kernel) (c0 := 11) rfl ⟨by decide, by decide⟩ ⟨by decide, by decide⟩ (d_X11_winsBy_62) (fun x hx => (hno x hx).elim) ⟨by decide, by decide⟩ ⟨by decide, by decide⟩ (s_cle C0 (d_X11_winsBy_65) (by decide) hgz hgz (fun _ _ _ h => h) (s_ic C0 (d_X11_winsBy_68) hgz (s_goto C0 (tgt := 73) (d_X11_winsBy_69) (by decide) hgz (fun _ _ _ h => h)) (okn rfl))))))) (okn rfl),
  s_ic C0 (d_X11_winsBy_72) hgz (fun _ _ _ h => h) (okn rfl),
  s_rz C0 hr (d_X11_winsBy_73) ⟨by decide, by decide⟩⟩
theorem c_X11_winsBy (l : Launch) : Ctr l yX11_winsBy cX11_winsBy 4 (some .boolean) 11 222 0 (fun sx => (nf G_X11_winsBy)) := ctr_of (by decide) gz gz ⟨rfl, rfl⟩ (fun p e s m args below meth c D ca ad sx sy A Q as M C0 hE hr hno hF => P_X11_winsBy (L_X11_winsBy C0 hE hr hno) hF)
theorem wg1586 : Cond.code ⟨"WeighedHallModel", "winsBy", "(I)Z"⟩ prog_13_method_62_code 4 (Option.some .boolean) ∈ GT := gt_mem 1706 (by decide +kernel) rfl
theorem wg1583 : Cond.methodLink "WeighedHallModel" 296 ⟨"WeighedHallModel", "winsBy", "(I)Z"⟩ ∈ GT := gt_mem 1703 (by decide +kernel) rfl
theorem wg1585 : Cond.instanceMethod ⟨"WeighedHallModel", "winsBy", "(I)Z"⟩ ∈ GT := gt_mem 1705 (by decide +kernel) rfl
theorem ws115 : Cond.selects "WeighedHallModel" ⟨"WeighedHallModel", "winsBy", "(I)Z"⟩ ⟨"WeighedHallModel", "winsBy", "(I)Z"⟩ ∈ GT := gt_mem 115 (by decide +kernel) rfl
theorem d_X11_together_0 : decode cX11_together 0 = .ok (.aload_n 0, 1) := by decide +kernel
theorem d_X11_together_1 : decode cX11_together 1 = .ok (.iconst 0, 1) := by decide +kernel
theorem d_X11_together_2 : decode cX11_together 2 = .ok (.putfield 106, 3) := by decide +kernel
theorem d_X11_together_5 : decode cX11_together 5 = .ok (.iconst 0, 1) := by decide +kernel
theorem d_X11_together_6 : decode cX11_together 6 = .ok (.istore_n 2, 1) := by decide +kernel
theorem d_X11_together_7 : decode cX11_together 7 = .ok (.iconst 0, 1) := by decide +kernel
theorem d_X11_together_8 : decode cX11_together 8 = .ok (.istore_n 3, 1) := by decide +kernel
theorem d_X11_together_9 : decode cX11_together 9 = .ok (.iload_n 3, 1) := by decide +kernel
theorem d_X11_together_10 : decode cX11_together 10 = .ok (.bipush 16, 2) := by decide +kernel
theorem d_X11_together_12 : decode cX11_together 12 = .ok (.if_icmp .ge 85, 3) := by decide +kernel
theorem d_X11_together_15 : decode cX11_together 15 = .ok (.aload_n 0, 1) := by decide +kernel
theorem d_X11_together_16 : decode cX11_together 16 = .ok (.iload_n 3, 1) := by decide +kernel
theorem d_X11_together_17 : decode cX11_together 17 = .ok (.invokevirtual 296, 3) := by decide +kernel
theorem d_X11_together_20 : decode cX11_together 20 = .ok (.istore 4, 2) := by decide +kernel
theorem d_X11_together_22 : decode cX11_together 22 = .ok (.iconst 0, 1) := by decide +kernel
theorem d_X11_together_23 : decode cX11_together 23 = .ok (.istore 5, 2) := by decide +kernel
theorem d_X11_together_25 : decode cX11_together 25 = .ok (.iload 5, 2) := by decide +kernel
theorem d_X11_together_27 : decode cX11_together 27 = .ok (.iconst 4, 1) := by decide +kernel
theorem d_X11_together_28 : decode cX11_together 28 = .ok (.if_icmp .ge 45, 3) := by decide +kernel
theorem d_X11_together_31 : decode cX11_together 31 = .ok (.iload 4, 2) := by decide +kernel
theorem d_X11_together_33 : decode cX11_together 33 = .ok (.ifCond .eq 31, 3) := by decide +kernel
theorem d_X11_together_36 : decode cX11_together 36 = .ok (.iload_n 3, 1) := by decide +kernel
theorem d_X11_together_37 : decode cX11_together 37 = .ok (.iload 5, 2) := by decide +kernel
theorem d_X11_together_39 : decode cX11_together 39 = .ok (.ishr, 1) := by decide +kernel
theorem d_X11_together_40 : decode cX11_together 40 = .ok (.iconst 1, 1) := by decide +kernel
theorem d_X11_together_41 : decode cX11_together 41 = .ok (.iand, 1) := by decide +kernel
theorem d_X11_together_42 : decode cX11_together 42 = .ok (.ifCond .eq 18, 3) := by decide +kernel
theorem d_X11_together_45 : decode cX11_together 45 = .ok (.aload_n 0, 1) := by decide +kernel
theorem d_X11_together_46 : decode cX11_together 46 = .ok (.iload_n 3, 1) := by decide +kernel
theorem d_X11_together_47 : decode cX11_together 47 = .ok (.iconst 1, 1) := by decide +kernel
theorem d_X11_together_48 : decode cX11_together 48 = .ok (.iload 5, 2) := by decide +kernel
theorem d_X11_together_50 : decode cX11_together 50 = .ok (.ishl, 1) := by decide +kernel
theorem d_X11_together_51 : decode cX11_together 51 = .ok (.iconst (-1), 1) := by decide +kernel
theorem d_X11_together_52 : decode cX11_together 52 = .ok (.ixor, 1) := by decide +kernel
theorem d_X11_together_53 : decode cX11_together 53 = .ok (.iand, 1) := by decide +kernel
theorem d_X11_together_54 : decode cX11_together 54 = .ok (.invokevirtual 296, 3) := by decide +kernel
theorem d_X11_together_57 : decode cX11_together 57 = .ok (.ifCond .ne 7, 3) := by decide +kernel
theorem d_X11_together_60 : decode cX11_together 60 = .ok (.iconst 1, 1) := by decide +kernel
theorem d_X11_together_61 : decode cX11_together 61 = .ok (.goto 4, 3) := by decide +kernel
theorem d_X11_together_64 : decode cX11_together 64 = .ok (.iconst 0, 1) := by decide +kernel
theorem d_X11_together_65 : decode cX11_together 65 = .ok (.istore 4, 2) := by decide +kernel
theorem d_X11_together_67 : decode cX11_together 67 = .ok (.iinc 5 1, 3) := by decide +kernel
theorem d_X11_together_70 : decode cX11_together 70 = .ok (.goto (-45), 3) := by decide +kernel
theorem d_X11_together_73 : decode cX11_together 73 = .ok (.iload 4, 2) := by decide +kernel
theorem d_X11_together_75 : decode cX11_together 75 = .ok (.ifCond .ne 6, 3) := by decide +kernel
theorem d_X11_together_78 : decode cX11_together 78 = .ok (.goto 13, 3) := by decide +kernel
theorem d_X11_together_81 : decode cX11_together 81 = .ok (.iload_n 2, 1) := by decide +kernel
theorem d_X11_together_82 : decode cX11_together 82 = .ok (.iload_n 1, 1) := by decide +kernel
theorem d_X11_together_83 : decode cX11_together 83 = .ok (.if_icmp .ne 5, 3) := by decide +kernel
theorem d_X11_together_86 : decode cX11_together 86 = .ok (.iload_n 3, 1) := by decide +kernel
theorem d_X11_together_87 : decode cX11_together 87 = .ok (.ireturn, 1) := by decide +kernel
theorem d_X11_together_88 : decode cX11_together 88 = .ok (.iinc 2 1, 3) := by decide +kernel
theorem d_X11_together_91 : decode cX11_together 91 = .ok (.iinc 3 1, 3) := by decide +kernel
theorem d_X11_together_94 : decode cX11_together 94 = .ok (.goto (-85), 3) := by decide +kernel
theorem d_X11_together_97 : decode cX11_together 97 = .ok (.iconst (-1), 1) := by decide +kernel
theorem d_X11_together_98 : decode cX11_together 98 = .ok (.ireturn, 1) := by decide +kernel
set_option maxRecDepth 100000 in
theorem L_X11_together {p : Program} {l : Launch} {e : Env} {s : State} {m : MethodId} {args : Array Value} {below : List Frame} {meth : Method} {c : Code} {D : va_G} {ca : Nat → ClassId} {ad sx sy : Nat → Nat} {A : Nat → Prop} {Q : QT} (C0 : CX p s m args meth c cX11_together 6 yX11_together.cls D ca ad A) (hE : EX sx sy A s s.heap) (hr : meth.sig.returnType = (some .int)) (hno : ∀ x ∈ c.exceptionTable.toList, False) : R_X11_together (JW p l e { frames := 12, cells := 0, slots := 6 * 0, locals := 245 } s m args below meth c 6 D ca ad A (vx_MQ below (Qn D ca ad A Q) (Qx D ca ad A Q) args s 0 (6 * 0) A) gz gz true) Q := ⟨s_aln C0 (d_X11_together_0) hgz (s_ic C0 (d_X11_together_1) hgz (s_pi C0 (j := 0) (c0 := 11) rfl gX11 tyX11_ok nmX11 (by decide) rfl (by decide) rfl rfl wg1201 (d_X11_together_2) hgz (s_ic C0 (d_X11_together_5) hgz (s_isn C0 (d_X11_together_6) hgz (s_ic C0 (d_X11_together_7) hgz (s_isn C0 (d_X11_together_8) hgz (fun _ _ _ h => h)) (okn rfl))) (okn rfl))) (okn rfl)),
  s_iln C0 (d_X11_together_9) hgz (s_bi C0 (d_X11_together_10) hgz (s_cge C0 (d_X11_together_12) (by decide) hgz hgz (fun _ _ _ h => h) (s_aln C0 (d_X11_together_15) hgz (s_iln C0 (d_X11_together_16) hgz (s_callV C0 hE (c_X11_winsBy l) wg1586 wg1583 wg1585 ws115 wg12 ⟨by decide, by decide⟩ (by decide +kernel) (c0 := 11) rfl ⟨by decide, by decide⟩ ⟨by decide, by decide⟩ (d_X11_together_17) (fun x hx => (hno x hx).elim) ⟨by decide, by decide⟩ ⟨by decide, by decide⟩ (s_is C0 (d_X11_together_20) hgz (s_ic C0 (d_X11_together_22) hgz (s_is C0 (d_X11_together_23) hgz (fun _ _ _ h => h)) (okn rfl))))))) (okn rfl) rfl),
  s_il C0 (d_X11_together_25) hgz (s_ic C0 (d_X11_together_27) hgz (s_cge C0 (d_X11_together_28) (by decide) hgz hgz (fun _ _ _ h => h) (s_il C0 (d_X11_together_31) hgz (s_zeq C0 (d_X11_together_33) (by decide) hgz hgz (fun _ _ _ h => h) (s_iln C0 (d_X11_together_36) hgz (s_il C0 (d_X11_together_37) hgz (s_shr C0 (d_X11_together_39) hgz (s_ic C0 (d_X11_together_40) hgz (s_and C0 (d_X11_together_41) hgz (s_zeq C0 (d_X11_together_42) (by decide) hgz hgz (fun _ _ _ h => h) (s_aln C0 (d_X11_together_45) hgz (s_iln C0 (d_X11_together_46) hgz (s_ic C0 (d_X11_together_47) hgz (s_il C0 (d_X11_together_48) hgz (s_shl C0 (d_X11_together_50) hgz (s_ic C0 (d_X11_together_51) hgz (s_xor C0 (d_X11_together_52) hgz (s_and C0 (d_X11_together_53) hgz (s_callV C0 hE (c_X11_winsBy l) wg1586 wg1583 wg1585 ws115 wg12 ⟨by decide, by decide⟩ (by decide +kernel) (c0 := 11) rfl ⟨by decide, by decide⟩ ⟨by decide, by decide⟩ (d_X11_together_54) (fun x hx => (hno x hx).elim) ⟨by decide, by decide⟩ ⟨by decide, by decide⟩ (s_zne C0 (d_X11_together_57) (by decide) hgz hgz (fun _ _ _ h => h) (fun _ _ _ h => h))))) (okn rfl)))) (okn rfl)))))) (okn rfl)))))))) (okn rfl)),
  s_ic C0 (d_X11_together_60) hgz (s_goto C0 (tgt := 65) (d_X11_together_61) (by decide) hgz (fun _ _ _ h => h)) (okn rfl),
  s_ic C0 (d_X11_together_64) hgz (fun _ _ _ h => h) (okn rfl),
  s_is C0 (d_X11_together_65) hgz (s_inc C0 (d_X11_together_67) hgz (s_goto C0 (tgt := 25) (d_X11_together_70) (by decide) hgz (fun _ _ _ h => h))),
  s_il C0 (d_X11_together_73) hgz (s_zne C0 (d_X11_together_75) (by decide) hgz hgz (fun _ _ _ h => h) (s_goto C0 (tgt := 91) (d_X11_together_78) (by decide) hgz (fun _ _ _ h => h))),
  s_iln C0 (d_X11_together_81) hgz (s_iln C0 (d_X11_together_82) hgz (s_cne C0 (d_X11_together_83) (by decide) hgz hgz (fun _ _ _ h => h) (s_iln C0 (d_X11_together_86) hgz (s_ri C0 hr (d_X11_together_87) ⟨by decide, by decide⟩)))),
  s_inc C0 (d_X11_together_88) hgz (fun _ _ _ h => h),
  s_inc C0 (d_X11_together_91) hgz (s_goto C0 (tgt := 9) (d_X11_together_94) (by decide) hgz (fun _ _ _ h => h)),
  s_ic C0 (d_X11_together_97) hgz (s_ri C0 hr (d_X11_together_98) ⟨by decide, by decide⟩) (okn rfl)⟩
theorem c_X11_together (l : Launch) : Ctr l yX11_together cX11_together 6 (some .int) 12 245 0 (fun sx => (nf G_X11_together)) := ctr_of (by decide) gz gz ⟨rfl, rfl⟩ (fun p e s m args below meth c D ca ad sx sy A Q as M C0 hE hr hno hF => P_X11_together (L_X11_together C0 hE hr hno) hF)
theorem d_X11_told_0 : decode cX11_told 0 = .ok (.aload_n 0, 1) := by decide +kernel
theorem d_X11_told_1 : decode cX11_told 1 = .ok (.iconst 0, 1) := by decide +kernel
theorem d_X11_told_2 : decode cX11_told 2 = .ok (.putfield 106, 3) := by decide +kernel
theorem d_X11_told_5 : decode cX11_told 5 = .ok (.aload_n 0, 1) := by decide +kernel
theorem d_X11_told_6 : decode cX11_told 6 = .ok (.iload_n 1, 1) := by decide +kernel
theorem d_X11_told_7 : decode cX11_told 7 = .ok (.iconst 0, 1) := by decide +kernel
theorem d_X11_told_8 : decode cX11_told 8 = .ok (.iconst 5, 1) := by decide +kernel
theorem d_X11_told_9 : decode cX11_told 9 = .ok (.invokestatic 140, 3) := by decide +kernel
theorem d_X11_told_12 : decode cX11_told 12 = .ok (.ifCond .ne 7, 3) := by decide +kernel
theorem d_X11_told_15 : decode cX11_told 15 = .ok (.iconst 1, 1) := by decide +kernel
theorem d_X11_told_16 : decode cX11_told 16 = .ok (.goto 4, 3) := by decide +kernel
theorem d_X11_told_19 : decode cX11_told 19 = .ok (.iconst 0, 1) := by decide +kernel
theorem d_X11_told_20 : decode cX11_told 20 = .ok (.iconst 1, 1) := by decide +kernel
theorem d_X11_told_21 : decode cX11_told 21 = .ok (.iconst 1, 1) := by decide +kernel
theorem d_X11_told_22 : decode cX11_told 22 = .ok (.invokevirtual 188, 3) := by decide +kernel
theorem d_X11_told_25 : decode cX11_told 25 = .ok (.ifCond .eq 5, 3) := by decide +kernel
theorem d_X11_told_28 : decode cX11_told 28 = .ok (.iconst 0, 1) := by decide +kernel
theorem d_X11_told_29 : decode cX11_told 29 = .ok (.ireturn, 1) := by decide +kernel
theorem d_X11_told_30 : decode cX11_told 30 = .ok (.iload_n 1, 1) := by decide +kernel
theorem d_X11_told_31 : decode cX11_told 31 = .ok (.iconst 4, 1) := by decide +kernel
theorem d_X11_told_32 : decode cX11_told 32 = .ok (.if_icmp .ge 12, 3) := by decide +kernel
theorem d_X11_told_35 : decode cX11_told 35 = .ok (.aload_n 0, 1) := by decide +kernel
theorem d_X11_told_36 : decode cX11_told 36 = .ok (.getfield 23, 3) := by decide +kernel
theorem d_X11_told_39 : decode cX11_told 39 = .ok (.iload_n 1, 1) := by decide +kernel
theorem d_X11_told_40 : decode cX11_told 40 = .ok (.iaload, 1) := by decide +kernel
theorem d_X11_told_41 : decode cX11_told 41 = .ok (.goto 21, 3) := by decide +kernel
theorem d_X11_told_44 : decode cX11_told 44 = .ok (.iload_n 1, 1) := by decide +kernel
theorem d_X11_told_45 : decode cX11_told 45 = .ok (.iconst 4, 1) := by decide +kernel
theorem d_X11_told_46 : decode cX11_told 46 = .ok (.if_icmp .ne 10, 3) := by decide +kernel
theorem d_X11_told_49 : decode cX11_told 49 = .ok (.aload_n 0, 1) := by decide +kernel
theorem d_X11_told_50 : decode cX11_told 50 = .ok (.getfield 199, 3) := by decide +kernel
theorem d_X11_told_53 : decode cX11_told 53 = .ok (.goto 9, 3) := by decide +kernel
theorem d_X11_told_56 : decode cX11_told 56 = .ok (.aload_n 0, 1) := by decide +kernel
theorem d_X11_told_57 : decode cX11_told 57 = .ok (.getfield 23, 3) := by decide +kernel
theorem d_X11_told_60 : decode cX11_told 60 = .ok (.iconst 4, 1) := by decide +kernel
theorem d_X11_told_61 : decode cX11_told 61 = .ok (.iaload, 1) := by decide +kernel
theorem d_X11_told_62 : decode cX11_told 62 = .ok (.ireturn, 1) := by decide +kernel
set_option maxRecDepth 100000 in
theorem L_X11_told {p : Program} {l : Launch} {e : Env} {s : State} {m : MethodId} {args : Array Value} {below : List Frame} {meth : Method} {c : Code} {D : va_G} {ca : Nat → ClassId} {ad sx sy : Nat → Nat} {A : Nat → Prop} {Q : QT} (C0 : CX p s m args meth c cX11_told 2 yX11_told.cls D ca ad A) (hE : EX sx sy A s s.heap) (hr : meth.sig.returnType = (some .int)) (hno : ∀ x ∈ c.exceptionTable.toList, False) : R_X11_told (JW p l e { frames := 11, cells := 0, slots := 6 * 0, locals := 223 } s m args below meth c 2 D ca ad A (vx_MQ below (Qn D ca ad A Q) (Qx D ca ad A Q) args s 0 (6 * 0) A) gz gz true) Q := ⟨s_aln C0 (d_X11_told_0) hgz (s_ic C0 (d_X11_told_1) hgz (s_pi C0 (j := 0) (c0 := 11) rfl gX11 tyX11_ok nmX11 (by decide) rfl (by decide) rfl rfl wg1201 (d_X11_told_2) hgz (s_aln C0 (d_X11_told_5) hgz (s_iln C0 (d_X11_told_6) hgz (s_ic C0 (d_X11_told_7) hgz (s_ic C0 (d_X11_told_8) hgz (s_callS C0 hE (c_X11_in l) wg1355 wg1353 wg1354 wg12 ⟨by decide, by decide⟩ (by decide +kernel) ⟨by decide, by decide⟩ ⟨by decide, by decide⟩ (d_X11_told_9) (fun x hx => (hno x hx).elim) ⟨by decide, by decide⟩ ⟨by decide, by decide⟩ (s_zne C0 (d_X11_told_12) (by decide) hgz hgz (fun _ _ _ h => h) (s_ic C0 (d_X11_told_15) hgz (s_goto C0 (tgt := 20) (d_X11_told_16) (by decide) hgz (fun _ _ _ h => h)) (okn rfl)))) (okn rfl)) (okn rfl))))) (okn rfl)),
  s_ic C0 (d_X11_told_19) hgz (fun _ _ _ h => h) (okn rfl),
  s_ic C0 (d_X11_told_20) hgz (s_ic C0 (d_X11_told_21) hgz (s_callV C0 hE (c_X11_bad l) wg1359 wg1356 wg1358 ws82 wg12 ⟨by decide, by decide⟩ (by decide +kernel) (c0 := 11) rfl ⟨by decide, by decide⟩ ⟨by decide, by decide⟩ (d_X11_told_22) (fun x hx => (hno x hx).elim) ⟨by decide, by decide⟩ ⟨by decide, by decide⟩ (s_zeq C0 (d_X11_told_25) (by decide) hgz hgz (fun _ _ _ h => h) (s_ic C0 (d_X11_told_28) hgz (s_ri C0 hr (d_X11_told_29) ⟨by decide, by decide⟩) (okn rfl)))) (okn rfl)) (okn rfl),
  s_iln C0 (d_X11_told_30) hgz (s_ic C0 (d_X11_told_31) hgz (s_cge C0 (d_X11_told_32) (by decide) hgz hgz (fun _ _ _ h => h) (s_aln C0 (d_X11_told_35) hgz (s_gr C0 (j := 11) (c0 := 11) rfl gX11 (by decide) rfl rfl wg1212 (d_X11_told_36) hgz (s_iln C0 (d_X11_told_39) hgz (s_ia C0 (d_X11_told_40) hgz (s_goto C0 (tgt := 62) (d_X11_told_41) (by decide) hgz (fun _ _ _ h => h))))))) (okn rfl)),
  s_iln C0 (d_X11_told_44) hgz (s_ic C0 (d_X11_told_45) hgz (s_cne C0 (d_X11_told_46) (by decide) hgz hgz (fun _ _ _ h => h) (s_aln C0 (d_X11_told_49) hgz (s_gi C0 (j := 22) (c0 := 11) rfl gX11 (by decide) rfl (by decide) wg1223 (d_X11_told_50) hgz (s_goto C0 (tgt := 62) (d_X11_told_53) (by decide) hgz (fun _ _ _ h => h))))) (okn rfl)),
  s_aln C0 (d_X11_told_56) hgz (s_gr C0 (j := 11) (c0 := 11) rfl gX11 (by decide) rfl rfl wg1212 (d_X11_told_57) hgz (s_ic C0 (d_X11_told_60) hgz (s_ia C0 (d_X11_told_61) hgz (fun _ _ _ h => h)) (okn rfl))),
  s_ri C0 hr (d_X11_told_62) ⟨by decide, by decide⟩⟩
theorem c_X11_told (l : Launch) : Ctr l yX11_told cX11_told 2 (some .int) 11 223 0 (fun sx => (nf G_X11_told)) := ctr_of (by decide) gz gz ⟨rfl, rfl⟩ (fun p e s m args below meth c D ca ad sx sy A Q as M C0 hE hr hno hF => P_X11_told (L_X11_told C0 hE hr hno) hF)
theorem d_X11_unlike_0 : decode cX11_unlike 0 = .ok (.aload_n 0, 1) := by decide +kernel
theorem d_X11_unlike_1 : decode cX11_unlike 1 = .ok (.iconst 0, 1) := by decide +kernel
theorem d_X11_unlike_2 : decode cX11_unlike 2 = .ok (.putfield 106, 3) := by decide +kernel
theorem d_X11_unlike_5 : decode cX11_unlike 5 = .ok (.aload_n 0, 1) := by decide +kernel
theorem d_X11_unlike_6 : decode cX11_unlike 6 = .ok (.iload_n 1, 1) := by decide +kernel
theorem d_X11_unlike_7 : decode cX11_unlike 7 = .ok (.invokestatic 272, 3) := by decide +kernel
theorem d_X11_unlike_10 : decode cX11_unlike 10 = .ok (.ifCond .eq 10, 3) := by decide +kernel
theorem d_X11_unlike_13 : decode cX11_unlike 13 = .ok (.iload_n 2, 1) := by decide +kernel
theorem d_X11_unlike_14 : decode cX11_unlike 14 = .ok (.invokestatic 272, 3) := by decide +kernel
theorem d_X11_unlike_17 : decode cX11_unlike 17 = .ok (.ifCond .ne 7, 3) := by decide +kernel
theorem d_X11_unlike_20 : decode cX11_unlike 20 = .ok (.iconst 1, 1) := by decide +kernel
theorem d_X11_unlike_21 : decode cX11_unlike 21 = .ok (.goto 4, 3) := by decide +kernel
theorem d_X11_unlike_24 : decode cX11_unlike 24 = .ok (.iconst 0, 1) := by decide +kernel
theorem d_X11_unlike_25 : decode cX11_unlike 25 = .ok (.iconst 1, 1) := by decide +kernel
theorem d_X11_unlike_26 : decode cX11_unlike 26 = .ok (.iconst 1, 1) := by decide +kernel
theorem d_X11_unlike_27 : decode cX11_unlike 27 = .ok (.invokevirtual 188, 3) := by decide +kernel
theorem d_X11_unlike_30 : decode cX11_unlike 30 = .ok (.ifCond .eq 5, 3) := by decide +kernel
theorem d_X11_unlike_33 : decode cX11_unlike 33 = .ok (.iconst 0, 1) := by decide +kernel
theorem d_X11_unlike_34 : decode cX11_unlike 34 = .ok (.ireturn, 1) := by decide +kernel
theorem d_X11_unlike_35 : decode cX11_unlike 35 = .ok (.aload_n 0, 1) := by decide +kernel
theorem d_X11_unlike_36 : decode cX11_unlike 36 = .ok (.invokevirtual 266, 3) := by decide +kernel
theorem d_X11_unlike_39 : decode cX11_unlike 39 = .ok (.aload_n 0, 1) := by decide +kernel
theorem d_X11_unlike_40 : decode cX11_unlike 40 = .ok (.iload_n 1, 1) := by decide +kernel
theorem d_X11_unlike_41 : decode cX11_unlike 41 = .ok (.invokevirtual 275, 3) := by decide +kernel
theorem d_X11_unlike_44 : decode cX11_unlike 44 = .ok (.aload_n 0, 1) := by decide +kernel
theorem d_X11_unlike_45 : decode cX11_unlike 45 = .ok (.iload_n 2, 1) := by decide +kernel
theorem d_X11_unlike_46 : decode cX11_unlike 46 = .ok (.invokevirtual 275, 3) := by decide +kernel
theorem d_X11_unlike_49 : decode cX11_unlike 49 = .ok (.ixor, 1) := by decide +kernel
theorem d_X11_unlike_50 : decode cX11_unlike 50 = .ok (.invokestatic 278, 3) := by decide +kernel
theorem d_X11_unlike_53 : decode cX11_unlike 53 = .ok (.ireturn, 1) := by decide +kernel
set_option maxRecDepth 100000 in
theorem L_X11_unlike {p : Program} {l : Launch} {e : Env} {s : State} {m : MethodId} {args : Array Value} {below : List Frame} {meth : Method} {c : Code} {D : va_G} {ca : Nat → ClassId} {ad sx sy : Nat → Nat} {A : Nat → Prop} {Q : QT} (C0 : CX p s m args meth c cX11_unlike 3 yX11_unlike.cls D ca ad A) (hE : EX sx sy A s s.heap) (hr : meth.sig.returnType = (some .int)) (hno : ∀ x ∈ c.exceptionTable.toList, False) : R_X11_unlike (JW p l e { frames := 15, cells := 0, slots := 6 * 0, locals := 312 } s m args below meth c 3 D ca ad A (vx_MQ below (Qn D ca ad A Q) (Qx D ca ad A Q) args s 0 (6 * 0) A) gz gz true) Q := ⟨s_aln C0 (d_X11_unlike_0) hgz (s_ic C0 (d_X11_unlike_1) hgz (s_pi C0 (j := 0) (c0 := 11) rfl gX11 tyX11_ok nmX11 (by decide) rfl (by decide) rfl rfl wg1201 (d_X11_unlike_2) hgz (s_aln C0 (d_X11_unlike_5) hgz (s_iln C0 (d_X11_unlike_6) hgz (s_callS C0 hE (c_X11_isLaw l) wg1531 wg1529 wg1530 wg12 ⟨by decide, by decide⟩ (by decide +kernel) ⟨by decide, by decide⟩ ⟨by decide, by decide⟩ (d_X11_unlike_7) (fun x hx => (hno x hx).elim) ⟨by decide, by decide⟩ ⟨by decide, by decide⟩ (s_zeq C0 (d_X11_unlike_10) (by decide) hgz hgz (fun _ _ _ h => h) (s_iln C0 (d_X11_unlike_13) hgz (s_callS C0 hE (c_X11_isLaw l) wg1531 wg1529 wg1530 wg12 ⟨by decide, by decide⟩ (by decide +kernel) ⟨by decide, by decide⟩ ⟨by decide, by decide⟩ (d_X11_unlike_14) (fun x hx => (hno x hx).elim) ⟨by decide, by decide⟩ ⟨by decide, by decide⟩ (s_zne C0 (d_X11_unlike_17) (by decide) hgz hgz (fun _ _ _ h => h) (fun _ _ _ h => h))))))))) (okn rfl)),
  s_ic C0 (d_X11_unlike_20) hgz (s_goto C0 (tgt := 25) (d_X11_unlike_21) (by decide) hgz (fun _ _ _ h => h)) (okn rfl),
  s_ic C0 (d_X11_unlike_24) hgz (fun _ _ _ h => h) (okn rfl),
  s_ic C0 (d_X11_unlike_25) hgz (s_ic C0 (d_X11_unlike_26) hgz (s_callV C0 hE (c_X11_bad l) wg1359 wg1356 wg1358 ws82 wg12 ⟨by decide, by decide⟩ (by decide +kernel) (c0 := 11) rfl ⟨by decide, by decide⟩ ⟨by decide, by decide⟩ (d_X11_unlike_27) (fun x hx => (hno x hx).elim) ⟨by decide, by decide⟩ ⟨by decide, by decide⟩ (s_zeq C0 (d_X11_unlike_30) (by decide) hgz hgz (fun _ _ _ h => h) (s_ic C0 (d_X11_unlike_33) hgz (s_ri C0 hr (d_X11_unlike_34) ⟨by decide, by decide⟩) (okn rfl)))) (okn rfl)) (okn rfl),
  s_aln C0 (d_X11_unlike_35) hgz (s_callV C0 hE (c_X11_goesAll l) wg1520 wg1517 wg1519 ws109 wg12 ⟨by decide, by decide⟩ (by decide +kernel) (c0 := 11) rfl ⟨by decide, by decide⟩ ⟨by decide, by decide⟩ (d_X11_unlike_36) (fun x hx => (hno x hx).elim) ⟨by decide, by decide⟩ ⟨by decide, by decide⟩ (s_aln C0 (d_X11_unlike_39) hgz (s_iln C0 (d_X11_unlike_40) hgz (s_callV C0 hE (c_X11_passesBy l) wg1535 wg1532 wg1534 ws111 wg12 ⟨by decide, by decide⟩ (by decide +kernel) (c0 := 11) rfl ⟨by decide, by decide⟩ ⟨by decide, by decide⟩ (d_X11_unlike_41) (fun x hx => (hno x hx).elim) ⟨by decide, by decide⟩ ⟨by decide, by decide⟩ (s_aln C0 (d_X11_unlike_44) hgz (s_iln C0 (d_X11_unlike_45) hgz (s_callV C0 hE (c_X11_passesBy l) wg1535 wg1532 wg1534 ws111 wg12 ⟨by decide, by decide⟩ (by decide +kernel) (c0 := 11) rfl ⟨by decide, by decide⟩ ⟨by decide, by decide⟩ (d_X11_unlike_46) (fun x hx => (hno x hx).elim) ⟨by decide, by decide⟩ ⟨by decide, by decide⟩ (s_xor C0 (d_X11_unlike_49) hgz (s_callS C0 hE (c_X11_ones l) wg1546 wg1544 wg1545 wg12 ⟨by decide, by decide⟩ (by decide +kernel) ⟨by decide, by decide⟩ ⟨by decide, by decide⟩ (d_X11_unlike_50) (fun x hx => (hno x hx).elim) ⟨by decide, by decide⟩ ⟨by decide, by decide⟩ (s_ri C0 hr (d_X11_unlike_53) ⟨by decide, by decide⟩))))))))))⟩
theorem c_X11_unlike (l : Launch) : Ctr l yX11_unlike cX11_unlike 3 (some .int) 15 312 0 (fun sx => (nf G_X11_unlike)) := ctr_of (by decide) gz gz ⟨rfl, rfl⟩ (fun p e s m args below meth c D ca ad sx sy A Q as M C0 hE hr hno hF => P_X11_unlike (L_X11_unlike C0 hE hr hno) hF)
theorem d_X11_vote_0 : decode cX11_vote 0 = .ok (.aload_n 0, 1) := by decide +kernel
theorem d_X11_vote_1 : decode cX11_vote 1 = .ok (.iconst 0, 1) := by decide +kernel
theorem d_X11_vote_2 : decode cX11_vote 2 = .ok (.putfield 106, 3) := by decide +kernel
theorem d_X11_vote_5 : decode cX11_vote 5 = .ok (.iconst 1, 1) := by decide +kernel
theorem d_X11_vote_6 : decode cX11_vote 6 = .ok (.aload_n 0, 1) := by decide +kernel
theorem d_X11_vote_7 : decode cX11_vote 7 = .ok (.getfield 23, 3) := by decide +kernel
theorem d_X11_vote_10 : decode cX11_vote 10 = .ok (.iconst 0, 1) := by decide +kernel
theorem d_X11_vote_11 : decode cX11_vote 11 = .ok (.iaload, 1) := by decide +kernel
theorem d_X11_vote_12 : decode cX11_vote 12 = .ok (.ishl, 1) := by decide +kernel
theorem d_X11_vote_13 : decode cX11_vote 13 = .ok (.iconst 1, 1) := by decide +kernel
theorem d_X11_vote_14 : decode cX11_vote 14 = .ok (.isub, 1) := by decide +kernel
theorem d_X11_vote_15 : decode cX11_vote 15 = .ok (.istore 4, 2) := by decide +kernel
theorem d_X11_vote_17 : decode cX11_vote 17 = .ok (.aload_n 0, 1) := by decide +kernel
theorem d_X11_vote_18 : decode cX11_vote 18 = .ok (.iload_n 1, 1) := by decide +kernel
theorem d_X11_vote_19 : decode cX11_vote 19 = .ok (.iconst 0, 1) := by decide +kernel
theorem d_X11_vote_20 : decode cX11_vote 20 = .ok (.iload 4, 2) := by decide +kernel
theorem d_X11_vote_22 : decode cX11_vote 22 = .ok (.invokestatic 140, 3) := by decide +kernel
theorem d_X11_vote_25 : decode cX11_vote 25 = .ok (.ifCond .eq 32, 3) := by decide +kernel
theorem d_X11_vote_28 : decode cX11_vote 28 = .ok (.iload_n 2, 1) := by decide +kernel
theorem d_X11_vote_29 : decode cX11_vote 29 = .ok (.iconst 0, 1) := by decide +kernel
theorem d_X11_vote_30 : decode cX11_vote 30 = .ok (.iload 4, 2) := by decide +kernel
theorem d_X11_vote_32 : decode cX11_vote 32 = .ok (.invokestatic 140, 3) := by decide +kernel
theorem d_X11_vote_35 : decode cX11_vote 35 = .ok (.ifCond .eq 22, 3) := by decide +kernel
theorem d_X11_vote_38 : decode cX11_vote 38 = .ok (.iload_n 1, 1) := by decide +kernel
theorem d_X11_vote_39 : decode cX11_vote 39 = .ok (.iload_n 2, 1) := by decide +kernel
theorem d_X11_vote_40 : decode cX11_vote 40 = .ok (.iand, 1) := by decide +kernel
theorem d_X11_vote_41 : decode cX11_vote 41 = .ok (.ifCond .ne 16, 3) := by decide +kernel
theorem d_X11_vote_44 : decode cX11_vote 44 = .ok (.iload_n 3, 1) := by decide +kernel
theorem d_X11_vote_45 : decode cX11_vote 45 = .ok (.sipush (-9999), 3) := by decide +kernel
theorem d_X11_vote_48 : decode cX11_vote 48 = .ok (.sipush 9999, 3) := by decide +kernel
theorem d_X11_vote_51 : decode cX11_vote 51 = .ok (.invokestatic 140, 3) := by decide +kernel
theorem d_X11_vote_54 : decode cX11_vote 54 = .ok (.ifCond .ne 7, 3) := by decide +kernel
theorem d_X11_vote_57 : decode cX11_vote 57 = .ok (.iconst 1, 1) := by decide +kernel
theorem d_X11_vote_58 : decode cX11_vote 58 = .ok (.goto 4, 3) := by decide +kernel
theorem d_X11_vote_61 : decode cX11_vote 61 = .ok (.iconst 0, 1) := by decide +kernel
theorem d_X11_vote_62 : decode cX11_vote 62 = .ok (.iconst 1, 1) := by decide +kernel
theorem d_X11_vote_63 : decode cX11_vote 63 = .ok (.iconst 1, 1) := by decide +kernel
theorem d_X11_vote_64 : decode cX11_vote 64 = .ok (.invokevirtual 188, 3) := by decide +kernel
theorem d_X11_vote_67 : decode cX11_vote 67 = .ok (.ifCond .eq 5, 3) := by decide +kernel
theorem d_X11_vote_70 : decode cX11_vote 70 = .ok (.iconst 0, 1) := by decide +kernel
theorem d_X11_vote_71 : decode cX11_vote 71 = .ok (.ireturn, 1) := by decide +kernel
theorem d_X11_vote_72 : decode cX11_vote 72 = .ok (.aload_n 0, 1) := by decide +kernel
theorem d_X11_vote_73 : decode cX11_vote 73 = .ok (.getfield 202, 3) := by decide +kernel
theorem d_X11_vote_76 : decode cX11_vote 76 = .ok (.bipush 9, 2) := by decide +kernel
theorem d_X11_vote_78 : decode cX11_vote 78 = .ok (.if_icmp .ne 5, 3) := by decide +kernel
theorem d_X11_vote_81 : decode cX11_vote 81 = .ok (.iconst (-1), 1) := by decide +kernel
theorem d_X11_vote_82 : decode cX11_vote 82 = .ok (.ireturn, 1) := by decide +kernel
theorem d_X11_vote_83 : decode cX11_vote 83 = .ok (.aload_n 0, 1) := by decide +kernel
theorem d_X11_vote_84 : decode cX11_vote 84 = .ok (.getfield 58, 3) := by decide +kernel
theorem d_X11_vote_87 : decode cX11_vote 87 = .ok (.aload_n 0, 1) := by decide +kernel
theorem d_X11_vote_88 : decode cX11_vote 88 = .ok (.getfield 202, 3) := by decide +kernel
theorem d_X11_vote_91 : decode cX11_vote 91 = .ok (.aaload, 1) := by decide +kernel
theorem d_X11_vote_92 : decode cX11_vote 92 = .ok (.iconst 0, 1) := by decide +kernel
theorem d_X11_vote_93 : decode cX11_vote 93 = .ok (.iload_n 1, 1) := by decide +kernel
theorem d_X11_vote_94 : decode cX11_vote 94 = .ok (.iastore, 1) := by decide +kernel
theorem d_X11_vote_95 : decode cX11_vote 95 = .ok (.aload_n 0, 1) := by decide +kernel
theorem d_X11_vote_96 : decode cX11_vote 96 = .ok (.getfield 58, 3) := by decide +kernel
theorem d_X11_vote_99 : decode cX11_vote 99 = .ok (.aload_n 0, 1) := by decide +kernel
theorem d_X11_vote_100 : decode cX11_vote 100 = .ok (.getfield 202, 3) := by decide +kernel
theorem d_X11_vote_103 : decode cX11_vote 103 = .ok (.aaload, 1) := by decide +kernel
theorem d_X11_vote_104 : decode cX11_vote 104 = .ok (.iconst 1, 1) := by decide +kernel
theorem d_X11_vote_105 : decode cX11_vote 105 = .ok (.iload_n 2, 1) := by decide +kernel
theorem d_X11_vote_106 : decode cX11_vote 106 = .ok (.iastore, 1) := by decide +kernel
theorem d_X11_vote_107 : decode cX11_vote 107 = .ok (.aload_n 0, 1) := by decide +kernel
theorem d_X11_vote_108 : decode cX11_vote 108 = .ok (.getfield 58, 3) := by decide +kernel
theorem d_X11_vote_111 : decode cX11_vote 111 = .ok (.aload_n 0, 1) := by decide +kernel
theorem d_X11_vote_112 : decode cX11_vote 112 = .ok (.getfield 202, 3) := by decide +kernel
theorem d_X11_vote_115 : decode cX11_vote 115 = .ok (.aaload, 1) := by decide +kernel
theorem d_X11_vote_116 : decode cX11_vote 116 = .ok (.iconst 2, 1) := by decide +kernel
theorem d_X11_vote_117 : decode cX11_vote 117 = .ok (.iload_n 3, 1) := by decide +kernel
theorem d_X11_vote_118 : decode cX11_vote 118 = .ok (.iastore, 1) := by decide +kernel
theorem d_X11_vote_119 : decode cX11_vote 119 = .ok (.aload_n 0, 1) := by decide +kernel
theorem d_X11_vote_120 : decode cX11_vote 120 = .ok (.dup, 1) := by decide +kernel
theorem d_X11_vote_121 : decode cX11_vote 121 = .ok (.getfield 202, 3) := by decide +kernel
theorem d_X11_vote_124 : decode cX11_vote 124 = .ok (.iconst 1, 1) := by decide +kernel
theorem d_X11_vote_125 : decode cX11_vote 125 = .ok (.iadd, 1) := by decide +kernel
theorem d_X11_vote_126 : decode cX11_vote 126 = .ok (.putfield 202, 3) := by decide +kernel
theorem d_X11_vote_129 : decode cX11_vote 129 = .ok (.aload_n 0, 1) := by decide +kernel
theorem d_X11_vote_130 : decode cX11_vote 130 = .ok (.getfield 202, 3) := by decide +kernel
theorem d_X11_vote_133 : decode cX11_vote 133 = .ok (.ireturn, 1) := by decide +kernel
set_option maxRecDepth 100000 in
theorem L_X11_vote {p : Program} {l : Launch} {e : Env} {s : State} {m : MethodId} {args : Array Value} {below : List Frame} {meth : Method} {c : Code} {D : va_G} {ca : Nat → ClassId} {ad sx sy : Nat → Nat} {A : Nat → Prop} {Q : QT} (C0 : CX p s m args meth c cX11_vote 5 yX11_vote.cls D ca ad A) (hE : EX sx sy A s s.heap) (hr : meth.sig.returnType = (some .int)) (hno : ∀ x ∈ c.exceptionTable.toList, False) : R_X11_vote (JW p l e { frames := 11, cells := 0, slots := 6 * 0, locals := 223 } s m args below meth c 5 D ca ad A (vx_MQ below (Qn D ca ad A Q) (Qx D ca ad A Q) args s 0 (6 * 0) A) gz gz true) Q := ⟨s_aln C0 (d_X11_vote_0) hgz (s_ic C0 (d_X11_vote_1) hgz (s_pi C0 (j := 0) (c0 := 11) rfl gX11 tyX11_ok nmX11 (by decide) rfl (by decide) rfl rfl wg1201 (d_X11_vote_2) hgz (s_ic C0 (d_X11_vote_5) hgz (s_aln C0 (d_X11_vote_6) hgz (s_gr C0 (j := 11) (c0 := 11) rfl gX11 (by decide) rfl rfl wg1212 (d_X11_vote_7) hgz (s_ic C0 (d_X11_vote_10) hgz (s_ia C0 (d_X11_vote_11) hgz (s_shl C0 (d_X11_vote_12) hgz (s_ic C0 (d_X11_vote_13) hgz (s_sub C0 (d_X11_vote_14) hgz (s_is C0 (d_X11_vote_15) hgz (s_aln C0 (d_X11_vote_17) hgz (s_iln C0 (d_X11_vote_18) hgz (s_ic C0 (d_X11_vote_19) hgz (s_il C0 (d_X11_vote_20) hgz (s_callS C0 hE (c_X11_in l) wg1355 wg1353 wg1354 wg12 ⟨by decide, by decide⟩ (by decide +kernel) ⟨by decide, by decide⟩ ⟨by decide, by decide⟩ (d_X11_vote_22) (fun x hx => (hno x hx).elim) ⟨by decide, by decide⟩ ⟨by decide, by decide⟩ (s_zeq C0 (d_X11_vote_25) (by decide) hgz hgz (fun _ _ _ h => h) (s_iln C0 (d_X11_vote_28) hgz (s_ic C0 (d_X11_vote_29) hgz (s_il C0 (d_X11_vote_30) hgz (s_callS C0 hE (c_X11_in l) wg1355 wg1353 wg1354 wg12 ⟨by decide, by decide⟩ (by decide +kernel) ⟨by decide, by decide⟩ ⟨by decide, by decide⟩ (d_X11_vote_32) (fun x hx => (hno x hx).elim) ⟨by decide, by decide⟩ ⟨by decide, by decide⟩ (s_zeq C0 (d_X11_vote_35) (by decide) hgz hgz (fun _ _ _ h => h) (s_iln C0 (d_X11_vote_38) hgz (s_iln C0 (d_X11_vote_39) hgz (s_and C0 (d_X11_vote_40) hgz (s_zne C0 (d_X11_vote_41) (by decide) hgz hgz (fun _ _ _ h => h) (s_iln C0 (d_X11_vote_44) hgz (s_si C0 (d_X11_vote_45) hgz (s_si C0 (d_X11_vote_48) hgz (s_callS C0 hE (c_X11_in l) wg1355 wg1353 wg1354 wg12 ⟨by decide, by decide⟩ (by decide +kernel) ⟨by decide, by decide⟩ ⟨by decide, by decide⟩ (d_X11_vote_51) (fun x hx => (hno x hx).elim) ⟨by decide, by decide⟩ ⟨by decide, by decide⟩ (s_zne C0 (d_X11_vote_54) (by decide) hgz hgz (fun _ _ _ h => h) (fun _ _ _ h => h))) (okn rfl) rfl) (okn rfl) rfl))))))))) (okn rfl)))))) (okn rfl)))))) (okn rfl)))) (okn rfl)))) (okn rfl))) (okn rfl)),
  s_ic C0 (d_X11_vote_57) hgz (s_goto C0 (tgt := 62) (d_X11_vote_58) (by decide) hgz (fun _ _ _ h => h)) (okn rfl),
  s_ic C0 (d_X11_vote_61) hgz (fun _ _ _ h => h) (okn rfl),
  s_ic C0 (d_X11_vote_62) hgz (s_ic C0 (d_X11_vote_63) hgz (s_callV C0 hE (c_X11_bad l) wg1359 wg1356 wg1358 ws82 wg12 ⟨by decide, by decide⟩ (by decide +kernel) (c0 := 11) rfl ⟨by decide, by decide⟩ ⟨by decide, by decide⟩ (d_X11_vote_64) (fun x hx => (hno x hx).elim) ⟨by decide, by decide⟩ ⟨by decide, by decide⟩ (s_zeq C0 (d_X11_vote_67) (by decide) hgz hgz (fun _ _ _ h => h) (s_ic C0 (d_X11_vote_70) hgz (s_ri C0 hr (d_X11_vote_71) ⟨by decide, by decide⟩) (okn rfl)))) (okn rfl)) (okn rfl),
  s_aln C0 (d_X11_vote_72) hgz (s_gi C0 (j := 23) (c0 := 11) rfl gX11 (by decide) rfl (by decide) wg1224 (d_X11_vote_73) hgz (s_bi C0 (d_X11_vote_76) hgz (s_cne C0 (d_X11_vote_78) (by decide) hgz hgz (fun _ _ _ h => h) (s_ic C0 (d_X11_vote_81) hgz (s_ri C0 hr (d_X11_vote_82) ⟨by decide, by decide⟩) (okn rfl))) (okn rfl) rfl)),
  s_aln C0 (d_X11_vote_83) hgz (s_gr C0 (j := 26) (c0 := 11) rfl gX11 (by decide) rfl rfl wg1227 (d_X11_vote_84) hgz (s_aln C0 (d_X11_vote_87) hgz (s_gi C0 (j := 23) (c0 := 11) rfl gX11 (by decide) rfl (by decide) wg1224 (d_X11_vote_88) hgz (s_aa C0 (by decide) (by decide) rfl rfl (d_X11_vote_91) hgz (s_ic C0 (d_X11_vote_92) hgz (s_iln C0 (d_X11_vote_93) hgz (s_iax C0 (d_X11_vote_94) hgz (s_aln C0 (d_X11_vote_95) hgz (s_gr C0 (j := 26) (c0 := 11) rfl gX11 (by decide) rfl rfl wg1227 (d_X11_vote_96) hgz (s_aln C0 (d_X11_vote_99) hgz (s_gi C0 (j := 23) (c0 := 11) rfl gX11 (by decide) rfl (by decide) wg1224 (d_X11_vote_100) hgz (s_aa C0 (by decide) (by decide) rfl rfl (d_X11_vote_103) hgz (s_ic C0 (d_X11_vote_104) hgz (s_iln C0 (d_X11_vote_105) hgz (s_iax C0 (d_X11_vote_106) hgz (s_aln C0 (d_X11_vote_107) hgz (s_gr C0 (j := 26) (c0 := 11) rfl gX11 (by decide) rfl rfl wg1227 (d_X11_vote_108) hgz (s_aln C0 (d_X11_vote_111) hgz (s_gi C0 (j := 23) (c0 := 11) rfl gX11 (by decide) rfl (by decide) wg1224 (d_X11_vote_112) hgz (s_aa C0 (by decide) (by decide) rfl rfl (d_X11_vote_115) hgz (s_ic C0 (d_X11_vote_116) hgz (s_iln C0 (d_X11_vote_117) hgz (s_iax C0 (d_X11_vote_118) hgz (s_aln C0 (d_X11_vote_119) hgz (s_dup C0 (d_X11_vote_120) hgz (s_gi C0 (j := 23) (c0 := 11) rfl gX11 (by decide) rfl (by decide) wg1224 (d_X11_vote_121) hgz (s_ic C0 (d_X11_vote_124) hgz (s_add C0 (d_X11_vote_125) hgz (s_pi C0 (j := 23) (c0 := 11) rfl gX11 tyX11_ok nmX11 (by decide) rfl (by decide) rfl rfl wg1224 (d_X11_vote_126) hgz (s_aln C0 (d_X11_vote_129) hgz (s_gi C0 (j := 23) (c0 := 11) rfl gX11 (by decide) rfl (by decide) wg1224 (d_X11_vote_130) hgz (s_ri C0 hr (d_X11_vote_133) ⟨by decide, by decide⟩))))) (okn rfl))))))) (okn rfl))))))))) (okn rfl))))))))) (okn rfl))))))⟩
theorem c_X11_vote (l : Launch) : Ctr l yX11_vote cX11_vote 5 (some .int) 11 223 0 (fun sx => (nf G_X11_vote)) := ctr_of (by decide) gz gz ⟨rfl, rfl⟩ (fun p e s m args below meth c D ca ad sx sy A Q as M C0 hE hr hno hF => P_X11_vote (L_X11_vote C0 hE hr hno) hF)
theorem d_X11_wins_0 : decode cX11_wins 0 = .ok (.aload_n 0, 1) := by decide +kernel
theorem d_X11_wins_1 : decode cX11_wins 1 = .ok (.iconst 0, 1) := by decide +kernel
theorem d_X11_wins_2 : decode cX11_wins 2 = .ok (.putfield 106, 3) := by decide +kernel
theorem d_X11_wins_5 : decode cX11_wins 5 = .ok (.aload_n 0, 1) := by decide +kernel
theorem d_X11_wins_6 : decode cX11_wins 6 = .ok (.iload_n 1, 1) := by decide +kernel
theorem d_X11_wins_7 : decode cX11_wins 7 = .ok (.iconst 0, 1) := by decide +kernel
theorem d_X11_wins_8 : decode cX11_wins 8 = .ok (.bipush 15, 2) := by decide +kernel
theorem d_X11_wins_10 : decode cX11_wins 10 = .ok (.invokestatic 140, 3) := by decide +kernel
theorem d_X11_wins_13 : decode cX11_wins 13 = .ok (.ifCond .ne 7, 3) := by decide +kernel
theorem d_X11_wins_16 : decode cX11_wins 16 = .ok (.iconst 1, 1) := by decide +kernel
theorem d_X11_wins_17 : decode cX11_wins 17 = .ok (.goto 4, 3) := by decide +kernel
theorem d_X11_wins_20 : decode cX11_wins 20 = .ok (.iconst 0, 1) := by decide +kernel
theorem d_X11_wins_21 : decode cX11_wins 21 = .ok (.iconst 1, 1) := by decide +kernel
theorem d_X11_wins_22 : decode cX11_wins 22 = .ok (.iconst 1, 1) := by decide +kernel
theorem d_X11_wins_23 : decode cX11_wins 23 = .ok (.invokevirtual 188, 3) := by decide +kernel
theorem d_X11_wins_26 : decode cX11_wins 26 = .ok (.ifCond .eq 5, 3) := by decide +kernel
theorem d_X11_wins_29 : decode cX11_wins 29 = .ok (.iconst 0, 1) := by decide +kernel
theorem d_X11_wins_30 : decode cX11_wins 30 = .ok (.ireturn, 1) := by decide +kernel
theorem d_X11_wins_31 : decode cX11_wins 31 = .ok (.aload_n 0, 1) := by decide +kernel
theorem d_X11_wins_32 : decode cX11_wins 32 = .ok (.iload_n 1, 1) := by decide +kernel
theorem d_X11_wins_33 : decode cX11_wins 33 = .ok (.invokevirtual 296, 3) := by decide +kernel
theorem d_X11_wins_36 : decode cX11_wins 36 = .ok (.ireturn, 1) := by decide +kernel
set_option maxRecDepth 100000 in
theorem L_X11_wins {p : Program} {l : Launch} {e : Env} {s : State} {m : MethodId} {args : Array Value} {below : List Frame} {meth : Method} {c : Code} {D : va_G} {ca : Nat → ClassId} {ad sx sy : Nat → Nat} {A : Nat → Prop} {Q : QT} (C0 : CX p s m args meth c cX11_wins 2 yX11_wins.cls D ca ad A) (hE : EX sx sy A s s.heap) (hr : meth.sig.returnType = (some .boolean)) (hno : ∀ x ∈ c.exceptionTable.toList, False) : R_X11_wins (JW p l e { frames := 12, cells := 0, slots := 6 * 0, locals := 245 } s m args below meth c 2 D ca ad A (vx_MQ below (Qn D ca ad A Q) (Qx D ca ad A Q) args s 0 (6 * 0) A) gz gz true) Q := ⟨s_aln C0 (d_X11_wins_0) hgz (s_ic C0 (d_X11_wins_1) hgz (s_pi C0 (j := 0) (c0 := 11) rfl gX11 tyX11_ok nmX11 (by decide) rfl (by decide) rfl rfl wg1201 (d_X11_wins_2) hgz (s_aln C0 (d_X11_wins_5) hgz (s_iln C0 (d_X11_wins_6) hgz (s_ic C0 (d_X11_wins_7) hgz (s_bi C0 (d_X11_wins_8) hgz (s_callS C0 hE (c_X11_in l) wg1355 wg1353 wg1354 wg12 ⟨by decide, by decide⟩ (by decide +kernel) ⟨by decide, by decide⟩ ⟨by decide, by decide⟩ (d_X11_wins_10) (fun x hx => (hno x hx).elim) ⟨by decide, by decide⟩ ⟨by decide, by decide⟩ (s_zne C0 (d_X11_wins_13) (by decide) hgz hgz (fun _ _ _ h => h) (s_ic C0 (d_X11_wins_16) hgz (s_goto C0 (tgt := 21) (d_X11_wins_17) (by decide) hgz (fun _ _ _ h => h)) (okn rfl)))) (okn rfl) rfl) (okn rfl))))) (okn rfl)),
  s_ic C0 (d_X11_wins_20) hgz (fun _ _ _ h => h) (okn rfl),
  s_ic C0 (d_X11_wins_21) hgz (s_ic C0 (d_X11_wins_22) hgz (s_callV C0 hE (c_X11_bad l) wg1359 wg1356 wg1358 ws82 wg12 ⟨by decide, by decide⟩ (by decide +kernel) (c0 := 11) rfl ⟨by decide, by decide⟩ ⟨by decide, by decide⟩ (d_X11_wins_23) (fun x hx => (hno x hx).elim) ⟨by decide, by decide⟩ ⟨by decide, by decide⟩ (s_zeq C0 (d_X11_wins_26) (by decide) hgz hgz (fun _ _ _ h => h) (s_ic C0 (d_X11_wins_29) hgz (s_rz C0 hr (d_X11_wins_30) ⟨by decide, by decide⟩) (okn rfl)))) (okn rfl)) (okn rfl),
  s_aln C0 (d_X11_wins_31) hgz (s_iln C0 (d_X11_wins_32) hgz (s_callV C0 hE (c_X11_winsBy l) wg1586 wg1583 wg1585 ws115 wg12 ⟨by decide, by decide⟩ (by decide +kernel) (c0 := 11) rfl ⟨by decide, by decide⟩ ⟨by decide, by decide⟩ (d_X11_wins_33) (fun x hx => (hno x hx).elim) ⟨by decide, by decide⟩ ⟨by decide, by decide⟩ (s_rz C0 hr (d_X11_wins_36) ⟨by decide, by decide⟩)))⟩
theorem c_X11_wins (l : Launch) : Ctr l yX11_wins cX11_wins 2 (some .boolean) 12 245 0 (fun sx => (nf G_X11_wins)) := ctr_of (by decide) gz gz ⟨rfl, rfl⟩ (fun p e s m args below meth c D ca ad sx sy A Q as M C0 hE hr hno hF => P_X11_wins (L_X11_wins C0 hE hr hno) hF)
theorem wg328 : Cond.fieldLink "WeighedHall$Bringing" 22 "WeighedHall$Bringing" "number" "I" ∈ GT := gt_mem 448 (by decide +kernel) rfl
theorem wn108 : Cond.fieldLinkNest "WeighedHall$Bringing" 55 "WeighedHall$Plan" "door" "[I" "WeighedHall" ∈ NT := nt_mem 108 (by decide +kernel) rfl
theorem wn89 : Cond.fieldLinkNest "WeighedHall$Bringing" 52 "WeighedHall$Plan" "things" "I" "WeighedHall" ∈ NT := nt_mem 89 (by decide +kernel) rfl
theorem wg329 : Cond.fieldLink "WeighedHall$Bringing" 9 "WeighedHall$Bringing" "order" "[I" ∈ GT := gt_mem 449 (by decide +kernel) rfl
theorem wn111 : Cond.fieldLinkNest "WeighedHall$Bringing" 42 "WeighedHall$Plan" "start" "[I" "WeighedHall" ∈ NT := nt_mem 111 (by decide +kernel) rfl
theorem d_X1_chooseThings_0 : decode cX1_chooseThings 0 = .ok (.aload_n 0, 1) := by decide +kernel
theorem d_X1_chooseThings_1 : decode cX1_chooseThings 1 = .ok (.iconst 0, 1) := by decide +kernel
theorem d_X1_chooseThings_2 : decode cX1_chooseThings 2 = .ok (.putfield 22, 3) := by decide +kernel
theorem d_X1_chooseThings_5 : decode cX1_chooseThings 5 = .ok (.iconst 0, 1) := by decide +kernel
theorem d_X1_chooseThings_6 : decode cX1_chooseThings 6 = .ok (.istore_n 3, 1) := by decide +kernel
theorem d_X1_chooseThings_7 : decode cX1_chooseThings 7 = .ok (.iload_n 3, 1) := by decide +kernel
theorem d_X1_chooseThings_8 : decode cX1_chooseThings 8 = .ok (.aload_n 1, 1) := by decide +kernel
theorem d_X1_chooseThings_9 : decode cX1_chooseThings 9 = .ok (.getfield 52, 3) := by decide +kernel
theorem d_X1_chooseThings_12 : decode cX1_chooseThings 12 = .ok (.if_icmp .ge 102, 3) := by decide +kernel
theorem d_X1_chooseThings_15 : decode cX1_chooseThings 15 = .ok (.aload_n 1, 1) := by decide +kernel
theorem d_X1_chooseThings_16 : decode cX1_chooseThings 16 = .ok (.getfield 55, 3) := by decide +kernel
theorem d_X1_chooseThings_19 : decode cX1_chooseThings 19 = .ok (.iload_n 3, 1) := by decide +kernel
theorem d_X1_chooseThings_20 : decode cX1_chooseThings 20 = .ok (.iaload, 1) := by decide +kernel
theorem d_X1_chooseThings_21 : decode cX1_chooseThings 21 = .ok (.iload_n 2, 1) := by decide +kernel
theorem d_X1_chooseThings_22 : decode cX1_chooseThings 22 = .ok (.if_icmp .ne 86, 3) := by decide +kernel
theorem d_X1_chooseThings_25 : decode cX1_chooseThings 25 = .ok (.aload_n 0, 1) := by decide +kernel
theorem d_X1_chooseThings_26 : decode cX1_chooseThings 26 = .ok (.getfield 22, 3) := by decide +kernel
theorem d_X1_chooseThings_29 : decode cX1_chooseThings 29 = .ok (.bipush 14, 2) := by decide +kernel
theorem d_X1_chooseThings_31 : decode cX1_chooseThings 31 = .ok (.if_icmp .ge 77, 3) := by decide +kernel
theorem d_X1_chooseThings_34 : decode cX1_chooseThings 34 = .ok (.aload_n 0, 1) := by decide +kernel
theorem d_X1_chooseThings_35 : decode cX1_chooseThings 35 = .ok (.getfield 22, 3) := by decide +kernel
theorem d_X1_chooseThings_38 : decode cX1_chooseThings 38 = .ok (.istore 4, 2) := by decide +kernel
theorem d_X1_chooseThings_40 : decode cX1_chooseThings 40 = .ok (.iload 4, 2) := by decide +kernel
theorem d_X1_chooseThings_42 : decode cX1_chooseThings 42 = .ok (.ifCond .le 48, 3) := by decide +kernel
theorem d_X1_chooseThings_45 : decode cX1_chooseThings 45 = .ok (.aload_n 1, 1) := by decide +kernel
theorem d_X1_chooseThings_46 : decode cX1_chooseThings 46 = .ok (.getfield 42, 3) := by decide +kernel
theorem d_X1_chooseThings_49 : decode cX1_chooseThings 49 = .ok (.aload_n 0, 1) := by decide +kernel
theorem d_X1_chooseThings_50 : decode cX1_chooseThings 50 = .ok (.getfield 9, 3) := by decide +kernel
theorem d_X1_chooseThings_53 : decode cX1_chooseThings 53 = .ok (.iload 4, 2) := by decide +kernel
theorem d_X1_chooseThings_55 : decode cX1_chooseThings 55 = .ok (.iconst 1, 1) := by decide +kernel
theorem d_X1_chooseThings_56 : decode cX1_chooseThings 56 = .ok (.isub, 1) := by decide +kernel
theorem d_X1_chooseThings_57 : decode cX1_chooseThings 57 = .ok (.iaload, 1) := by decide +kernel
theorem d_X1_chooseThings_58 : decode cX1_chooseThings 58 = .ok (.iaload, 1) := by decide +kernel
theorem d_X1_chooseThings_59 : decode cX1_chooseThings 59 = .ok (.aload_n 1, 1) := by decide +kernel
theorem d_X1_chooseThings_60 : decode cX1_chooseThings 60 = .ok (.getfield 42, 3) := by decide +kernel
theorem d_X1_chooseThings_63 : decode cX1_chooseThings 63 = .ok (.iload_n 3, 1) := by decide +kernel
theorem d_X1_chooseThings_64 : decode cX1_chooseThings 64 = .ok (.iaload, 1) := by decide +kernel
theorem d_X1_chooseThings_65 : decode cX1_chooseThings 65 = .ok (.if_icmp .le 25, 3) := by decide +kernel
theorem d_X1_chooseThings_68 : decode cX1_chooseThings 68 = .ok (.aload_n 0, 1) := by decide +kernel
theorem d_X1_chooseThings_69 : decode cX1_chooseThings 69 = .ok (.getfield 9, 3) := by decide +kernel
theorem d_X1_chooseThings_72 : decode cX1_chooseThings 72 = .ok (.iload 4, 2) := by decide +kernel
theorem d_X1_chooseThings_74 : decode cX1_chooseThings 74 = .ok (.aload_n 0, 1) := by decide +kernel
theorem d_X1_chooseThings_75 : decode cX1_chooseThings 75 = .ok (.getfield 9, 3) := by decide +kernel
theorem d_X1_chooseThings_78 : decode cX1_chooseThings 78 = .ok (.iload 4, 2) := by decide +kernel
theorem d_X1_chooseThings_80 : decode cX1_chooseThings 80 = .ok (.iconst 1, 1) := by decide +kernel
theorem d_X1_chooseThings_81 : decode cX1_chooseThings 81 = .ok (.isub, 1) := by decide +kernel
theorem d_X1_chooseThings_82 : decode cX1_chooseThings 82 = .ok (.iaload, 1) := by decide +kernel
theorem d_X1_chooseThings_83 : decode cX1_chooseThings 83 = .ok (.iastore, 1) := by decide +kernel
theorem d_X1_chooseThings_84 : decode cX1_chooseThings 84 = .ok (.iinc 4 (-1), 3) := by decide +kernel
theorem d_X1_chooseThings_87 : decode cX1_chooseThings 87 = .ok (.goto (-47), 3) := by decide +kernel
theorem d_X1_chooseThings_90 : decode cX1_chooseThings 90 = .ok (.aload_n 0, 1) := by decide +kernel
theorem d_X1_chooseThings_91 : decode cX1_chooseThings 91 = .ok (.getfield 9, 3) := by decide +kernel
theorem d_X1_chooseThings_94 : decode cX1_chooseThings 94 = .ok (.iload 4, 2) := by decide +kernel
theorem d_X1_chooseThings_96 : decode cX1_chooseThings 96 = .ok (.iload_n 3, 1) := by decide +kernel
theorem d_X1_chooseThings_97 : decode cX1_chooseThings 97 = .ok (.iastore, 1) := by decide +kernel
theorem d_X1_chooseThings_98 : decode cX1_chooseThings 98 = .ok (.aload_n 0, 1) := by decide +kernel
theorem d_X1_chooseThings_99 : decode cX1_chooseThings 99 = .ok (.dup, 1) := by decide +kernel
theorem d_X1_chooseThings_100 : decode cX1_chooseThings 100 = .ok (.getfield 22, 3) := by decide +kernel
theorem d_X1_chooseThings_103 : decode cX1_chooseThings 103 = .ok (.iconst 1, 1) := by decide +kernel
theorem d_X1_chooseThings_104 : decode cX1_chooseThings 104 = .ok (.iadd, 1) := by decide +kernel
theorem d_X1_chooseThings_105 : decode cX1_chooseThings 105 = .ok (.putfield 22, 3) := by decide +kernel
theorem d_X1_chooseThings_108 : decode cX1_chooseThings 108 = .ok (.iinc 3 1, 3) := by decide +kernel
theorem d_X1_chooseThings_111 : decode cX1_chooseThings 111 = .ok (.goto (-104), 3) := by decide +kernel
theorem d_X1_chooseThings_114 : decode cX1_chooseThings 114 = .ok (.return_, 1) := by decide +kernel
set_option maxRecDepth 100000 in
theorem L_X1_chooseThings {p : Program} {l : Launch} {e : Env} {s : State} {m : MethodId} {args : Array Value} {below : List Frame} {meth : Method} {c : Code} {D : va_G} {ca : Nat → ClassId} {ad sx sy : Nat → Nat} {A : Nat → Prop} {Q : QT} (C0 : CX p s m args meth c cX1_chooseThings 5 yX1_chooseThings.cls D ca ad A) (hE : EX sx sy A s s.heap) (hr : meth.sig.returnType = none) (hno : ∀ x ∈ c.exceptionTable.toList, False) : R_X1_chooseThings (JW p l e { frames := 10, cells := 0, slots := 6 * 0, locals := 200 } s m args below meth c 5 D ca ad A (vx_MQ below (Qn D ca ad A Q) (Qx D ca ad A Q) args s 0 (6 * 0) A) gz gz true) Q := ⟨s_aln C0 (d_X1_chooseThings_0) hgz (s_ic C0 (d_X1_chooseThings_1) hgz (s_pi C0 (j := 0) (c0 := 1) rfl gX1 tyX1_ok nmX1 (by decide) rfl (by decide) rfl rfl wg328 (d_X1_chooseThings_2) hgz (s_ic C0 (d_X1_chooseThings_5) hgz (s_isn C0 (d_X1_chooseThings_6) hgz (fun _ _ _ h => h)) (okn rfl))) (okn rfl)),
  s_iln C0 (d_X1_chooseThings_7) hgz (s_aln C0 (d_X1_chooseThings_8) hgz (s_giN C0 (j := 3) (c0 := 6) rfl gX6 (by decide) rfl (by decide) wn89 (d_X1_chooseThings_9) hgz (s_cge C0 (d_X1_chooseThings_12) (by decide) hgz hgz (fun _ _ _ h => h) (s_aln C0 (d_X1_chooseThings_15) hgz (s_grN C0 (j := 6) (c0 := 6) rfl gX6 (by decide) rfl rfl wn108 (d_X1_chooseThings_16) hgz (s_iln C0 (d_X1_chooseThings_19) hgz (s_ia C0 (d_X1_chooseThings_20) hgz (s_iln C0 (d_X1_chooseThings_21) hgz (s_cne C0 (d_X1_chooseThings_22) (by decide) hgz hgz (fun _ _ _ h => h) (s_aln C0 (d_X1_chooseThings_25) hgz (s_gi C0 (j := 0) (c0 := 1) rfl gX1 (by decide) rfl (by decide) wg328 (d_X1_chooseThings_26) hgz (s_bi C0 (d_X1_chooseThings_29) hgz (s_cge C0 (d_X1_chooseThings_31) (by decide) hgz hgz (fun _ _ _ h => h) (s_aln C0 (d_X1_chooseThings_34) hgz (s_gi C0 (j := 0) (c0 := 1) rfl gX1 (by decide) rfl (by decide) wg328 (d_X1_chooseThings_35) hgz (s_is C0 (d_X1_chooseThings_38) hgz (fun _ _ _ h => h))))) (okn rfl) rfl)))))))))))),
  s_il C0 (d_X1_chooseThings_40) hgz (s_zle C0 (d_X1_chooseThings_42) (by decide) hgz hgz (fun _ _ _ h => h) (s_aln C0 (d_X1_chooseThings_45) hgz (s_grN C0 (j := 7) (c0 := 6) rfl gX6 (by decide) rfl rfl wn111 (d_X1_chooseThings_46) hgz (s_aln C0 (d_X1_chooseThings_49) hgz (s_gr C0 (j := 1) (c0 := 1) rfl gX1 (by decide) rfl rfl wg329 (d_X1_chooseThings_50) hgz (s_il C0 (d_X1_chooseThings_53) hgz (s_ic C0 (d_X1_chooseThings_55) hgz (s_sub C0 (d_X1_chooseThings_56) hgz (s_ia C0 (d_X1_chooseThings_57) hgz (s_ia C0 (d_X1_chooseThings_58) hgz (s_aln C0 (d_X1_chooseThings_59) hgz (s_grN C0 (j := 7) (c0 := 6) rfl gX6 (by decide) rfl rfl wn111 (d_X1_chooseThings_60) hgz (s_iln C0 (d_X1_chooseThings_63) hgz (s_ia C0 (d_X1_chooseThings_64) hgz (s_cle C0 (d_X1_chooseThings_65) (by decide) hgz hgz (fun _ _ _ h => h) (s_aln C0 (d_X1_chooseThings_68) hgz (s_gr C0 (j := 1) (c0 := 1) rfl gX1 (by decide) rfl rfl wg329 (d_X1_chooseThings_69) hgz (s_il C0 (d_X1_chooseThings_72) hgz (s_aln C0 (d_X1_chooseThings_74) hgz (s_gr C0 (j := 1) (c0 := 1) rfl gX1 (by decide) rfl rfl wg329 (d_X1_chooseThings_75) hgz (s_il C0 (d_X1_chooseThings_78) hgz (s_ic C0 (d_X1_chooseThings_80) hgz (s_sub C0 (d_X1_chooseThings_81) hgz (s_ia C0 (d_X1_chooseThings_82) hgz (s_iax C0 (d_X1_chooseThings_83) hgz (s_inc C0 (d_X1_chooseThings_84) hgz (s_goto C0 (tgt := 40) (d_X1_chooseThings_87) (by decide) hgz (fun _ _ _ h => h)))))) (okn rfl)))))))))))))))) (okn rfl)))))))),
  s_aln C0 (d_X1_chooseThings_90) hgz (s_gr C0 (j := 1) (c0 := 1) rfl gX1 (by decide) rfl rfl wg329 (d_X1_chooseThings_91) hgz (s_il C0 (d_X1_chooseThings_94) hgz (s_iln C0 (d_X1_chooseThings_96) hgz (s_iax C0 (d_X1_chooseThings_97) hgz (s_aln C0 (d_X1_chooseThings_98) hgz (s_dup C0 (d_X1_chooseThings_99) hgz (s_gi C0 (j := 0) (c0 := 1) rfl gX1 (by decide) rfl (by decide) wg328 (d_X1_chooseThings_100) hgz (s_ic C0 (d_X1_chooseThings_103) hgz (s_add C0 (d_X1_chooseThings_104) hgz (s_pi C0 (j := 0) (c0 := 1) rfl gX1 tyX1_ok nmX1 (by decide) rfl (by decide) rfl rfl wg328 (d_X1_chooseThings_105) hgz (fun _ _ _ h => h))) (okn rfl))))))))),
  s_inc C0 (d_X1_chooseThings_108) hgz (s_goto C0 (tgt := 7) (d_X1_chooseThings_111) (by decide) hgz (fun _ _ _ h => h)),
  s_rv C0 hr (d_X1_chooseThings_114) ⟨by decide, by decide⟩⟩
theorem c_X1_chooseThings (l : Launch) : Ctr l yX1_chooseThings cX1_chooseThings 5 none 10 200 0 (fun sx => (nf G_X1_chooseThings)) := ctr_of (by decide) gz gz ⟨rfl, rfl⟩ (fun p e s m args below meth c D ca ad sx sy A Q as M C0 hE hr hno hF => P_X1_chooseThings (L_X1_chooseThings C0 hE hr hno) hF)
theorem wn99 : Cond.fieldLinkNest "WeighedHall$Bringing" 26 "WeighedHall$Plan" "weight" "[I" "WeighedHall" ∈ NT := nt_mem 99 (by decide +kernel) rfl
theorem wg636 : Cond.code ⟨"java/lang/Math", "min", "(II)I"⟩ prog_20_method_69_code 2 (Option.some .int) ∈ GT := gt_mem 756 (by decide +kernel) rfl
theorem wg1110 : Cond.methodLink "WeighedHall$Bringing" 32 ⟨"java/lang/Math", "min", "(II)I"⟩ ∈ GT := gt_mem 1230 (by decide +kernel) rfl
theorem wg635 : Cond.static ⟨"java/lang/Math", "min", "(II)I"⟩ ∈ GT := gt_mem 755 (by decide +kernel) rfl
theorem wg330 : Cond.fieldLink "WeighedHall$Bringing" 15 "WeighedHall$Bringing" "soonest" "[I" ∈ GT := gt_mem 450 (by decide +kernel) rfl
theorem wn1116 : Cond.methodLinkNest "WeighedHall$Bringing" 48 ⟨"WeighedHall$Plan", "passage", "(I)I"⟩ "WeighedHall" ∈ NT := nt_mem 1116 (by decide +kernel) rfl
theorem wg1115 : Cond.methodLink "WeighedHall$Bringing" 45 ⟨"java/lang/Math", "max", "(II)I"⟩ ∈ GT := gt_mem 1235 (by decide +kernel) rfl
theorem wg1109 : Cond.constant "WeighedHall$Bringing" 31 1000000 ∈ GT := gt_mem 1229 (by decide +kernel) rfl
theorem d_X1_takeIn_0 : decode cX1_takeIn 0 = .ok (.aload_n 1, 1) := by decide +kernel
theorem d_X1_takeIn_1 : decode cX1_takeIn 1 = .ok (.getfield 26, 3) := by decide +kernel
theorem d_X1_takeIn_4 : decode cX1_takeIn 4 = .ok (.iload_n 2, 1) := by decide +kernel
theorem d_X1_takeIn_5 : decode cX1_takeIn 5 = .ok (.iaload, 1) := by decide +kernel
theorem d_X1_takeIn_6 : decode cX1_takeIn 6 = .ok (.istore 4, 2) := by decide +kernel
theorem d_X1_takeIn_8 : decode cX1_takeIn 8 = .ok (.iload_n 3, 1) := by decide +kernel
theorem d_X1_takeIn_9 : decode cX1_takeIn 9 = .ok (.istore 5, 2) := by decide +kernel
theorem d_X1_takeIn_11 : decode cX1_takeIn 11 = .ok (.iload 5, 2) := by decide +kernel
theorem d_X1_takeIn_13 : decode cX1_takeIn 13 = .ok (.iload 4, 2) := by decide +kernel
theorem d_X1_takeIn_15 : decode cX1_takeIn 15 = .ok (.if_icmp .lt 70, 3) := by decide +kernel
theorem d_X1_takeIn_18 : decode cX1_takeIn 18 = .ok (.aload_n 0, 1) := by decide +kernel
theorem d_X1_takeIn_19 : decode cX1_takeIn 19 = .ok (.getfield 15, 3) := by decide +kernel
theorem d_X1_takeIn_22 : decode cX1_takeIn 22 = .ok (.iload 5, 2) := by decide +kernel
theorem d_X1_takeIn_24 : decode cX1_takeIn 24 = .ok (.iload 4, 2) := by decide +kernel
theorem d_X1_takeIn_26 : decode cX1_takeIn 26 = .ok (.isub, 1) := by decide +kernel
theorem d_X1_takeIn_27 : decode cX1_takeIn 27 = .ok (.iaload, 1) := by decide +kernel
theorem d_X1_takeIn_28 : decode cX1_takeIn 28 = .ok (.ldc 31, 2) := by decide +kernel
theorem d_X1_takeIn_30 : decode cX1_takeIn 30 = .ok (.if_icmp .eq 49, 3) := by decide +kernel
theorem d_X1_takeIn_33 : decode cX1_takeIn 33 = .ok (.aload_n 0, 1) := by decide +kernel
theorem d_X1_takeIn_34 : decode cX1_takeIn 34 = .ok (.getfield 15, 3) := by decide +kernel
theorem d_X1_takeIn_37 : decode cX1_takeIn 37 = .ok (.iload 5, 2) := by decide +kernel
theorem d_X1_takeIn_39 : decode cX1_takeIn 39 = .ok (.iload 4, 2) := by decide +kernel
theorem d_X1_takeIn_41 : decode cX1_takeIn 41 = .ok (.isub, 1) := by decide +kernel
theorem d_X1_takeIn_42 : decode cX1_takeIn 42 = .ok (.iaload, 1) := by decide +kernel
theorem d_X1_takeIn_43 : decode cX1_takeIn 43 = .ok (.aload_n 1, 1) := by decide +kernel
theorem d_X1_takeIn_44 : decode cX1_takeIn 44 = .ok (.getfield 42, 3) := by decide +kernel
theorem d_X1_takeIn_47 : decode cX1_takeIn 47 = .ok (.iload_n 2, 1) := by decide +kernel
theorem d_X1_takeIn_48 : decode cX1_takeIn 48 = .ok (.iaload, 1) := by decide +kernel
theorem d_X1_takeIn_49 : decode cX1_takeIn 49 = .ok (.invokestatic 45, 3) := by decide +kernel
theorem d_X1_takeIn_52 : decode cX1_takeIn 52 = .ok (.aload_n 1, 1) := by decide +kernel
theorem d_X1_takeIn_53 : decode cX1_takeIn 53 = .ok (.iload_n 2, 1) := by decide +kernel
theorem d_X1_takeIn_54 : decode cX1_takeIn 54 = .ok (.invokevirtual 48, 3) := by decide +kernel
theorem d_X1_takeIn_57 : decode cX1_takeIn 57 = .ok (.iadd, 1) := by decide +kernel
theorem d_X1_takeIn_58 : decode cX1_takeIn 58 = .ok (.istore 6, 2) := by decide +kernel
theorem d_X1_takeIn_60 : decode cX1_takeIn 60 = .ok (.aload_n 0, 1) := by decide +kernel
theorem d_X1_takeIn_61 : decode cX1_takeIn 61 = .ok (.getfield 15, 3) := by decide +kernel
theorem d_X1_takeIn_64 : decode cX1_takeIn 64 = .ok (.iload 5, 2) := by decide +kernel
theorem d_X1_takeIn_66 : decode cX1_takeIn 66 = .ok (.aload_n 0, 1) := by decide +kernel
theorem d_X1_takeIn_67 : decode cX1_takeIn 67 = .ok (.getfield 15, 3) := by decide +kernel
theorem d_X1_takeIn_70 : decode cX1_takeIn 70 = .ok (.iload 5, 2) := by decide +kernel
theorem d_X1_takeIn_72 : decode cX1_takeIn 72 = .ok (.iaload, 1) := by decide +kernel
theorem d_X1_takeIn_73 : decode cX1_takeIn 73 = .ok (.iload 6, 2) := by decide +kernel
theorem d_X1_takeIn_75 : decode cX1_takeIn 75 = .ok (.invokestatic 32, 3) := by decide +kernel
theorem d_X1_takeIn_78 : decode cX1_takeIn 78 = .ok (.iastore, 1) := by decide +kernel
theorem d_X1_takeIn_79 : decode cX1_takeIn 79 = .ok (.iinc 5 (-1), 3) := by decide +kernel
theorem d_X1_takeIn_82 : decode cX1_takeIn 82 = .ok (.goto (-71), 3) := by decide +kernel
theorem d_X1_takeIn_85 : decode cX1_takeIn 85 = .ok (.return_, 1) := by decide +kernel
set_option maxRecDepth 100000 in
theorem L_X1_takeIn {p : Program} {l : Launch} {e : Env} {s : State} {m : MethodId} {args : Array Value} {below : List Frame} {meth : Method} {c : Code} {D : va_G} {ca : Nat → ClassId} {ad sx sy : Nat → Nat} {A : Nat → Prop} {Q : QT} (C0 : CX p s m args meth c cX1_takeIn 7 yX1_takeIn.cls D ca ad A) (hE : EX sx sy A s s.heap) (hr : meth.sig.returnType = none) (hno : ∀ x ∈ c.exceptionTable.toList, False) : R_X1_takeIn (JW p l e { frames := 12, cells := 0, slots := 6 * 0, locals := 243 } s m args below meth c 7 D ca ad A (vx_MQ below (Qn D ca ad A Q) (Qx D ca ad A Q) args s 0 (6 * 0) A) gz gz true) Q := ⟨s_aln C0 (d_X1_takeIn_0) hgz (s_grN C0 (j := 5) (c0 := 6) rfl gX6 (by decide) rfl rfl wn99 (d_X1_takeIn_1) hgz (s_iln C0 (d_X1_takeIn_4) hgz (s_ia C0 (d_X1_takeIn_5) hgz (s_is C0 (d_X1_takeIn_6) hgz (s_iln C0 (d_X1_takeIn_8) hgz (s_is C0 (d_X1_takeIn_9) hgz (fun _ _ _ h => h))))))),
  s_il C0 (d_X1_takeIn_11) hgz (s_il C0 (d_X1_takeIn_13) hgz (s_clt C0 (d_X1_takeIn_15) (by decide) hgz hgz (fun _ _ _ h => h) (s_aln C0 (d_X1_takeIn_18) hgz (s_gr C0 (j := 2) (c0 := 1) rfl gX1 (by decide) rfl rfl wg330 (d_X1_takeIn_19) hgz (s_il C0 (d_X1_takeIn_22) hgz (s_il C0 (d_X1_takeIn_24) hgz (s_sub C0 (d_X1_takeIn_26) hgz (s_ia C0 (d_X1_takeIn_27) hgz (s_ldc C0 (n := 1000000) wg1109 (d_X1_takeIn_28) hgz (s_ceq C0 (d_X1_takeIn_30) (by decide) hgz hgz (fun _ _ _ h => h) (s_aln C0 (d_X1_takeIn_33) hgz (s_gr C0 (j := 2) (c0 := 1) rfl gX1 (by decide) rfl rfl wg330 (d_X1_takeIn_34) hgz (s_il C0 (d_X1_takeIn_37) hgz (s_il C0 (d_X1_takeIn_39) hgz (s_sub C0 (d_X1_takeIn_41) hgz (s_ia C0 (d_X1_takeIn_42) hgz (s_aln C0 (d_X1_takeIn_43) hgz (s_grN C0 (j := 7) (c0 := 6) rfl gX6 (by decide) rfl rfl wn111 (d_X1_takeIn_44) hgz (s_iln C0 (d_X1_takeIn_47) hgz (s_ia C0 (d_X1_takeIn_48) hgz (s_callS C0 hE (c_J9_max_7cf53 l) wg860 wg1115 wg859 wg17 ⟨by decide, by decide⟩ (by decide +kernel) ⟨by decide, by decide⟩ ⟨by decide, by decide⟩ (d_X1_takeIn_49) (fun x hx => (hno x hx).elim) ⟨by decide, by decide⟩ ⟨by decide, by decide⟩ (s_aln C0 (d_X1_takeIn_52) hgz (s_iln C0 (d_X1_takeIn_53) hgz (s_callVN C0 hE (c_X6_passage l) wg864 wn1116 wg863 ws42 wg3 ⟨by decide, by decide⟩ (by decide +kernel) (c0 := 6) rfl ⟨by decide, by decide⟩ ⟨by decide, by decide⟩ (d_X1_takeIn_54) (fun x hx => (hno x hx).elim) ⟨by decide, by decide⟩ ⟨by decide, by decide⟩ (s_add C0 (d_X1_takeIn_57) hgz (s_is C0 (d_X1_takeIn_58) hgz (s_aln C0 (d_X1_takeIn_60) hgz (s_gr C0 (j := 2) (c0 := 1) rfl gX1 (by decide) rfl rfl wg330 (d_X1_takeIn_61) hgz (s_il C0 (d_X1_takeIn_64) hgz (s_aln C0 (d_X1_takeIn_66) hgz (s_gr C0 (j := 2) (c0 := 1) rfl gX1 (by decide) rfl rfl wg330 (d_X1_takeIn_67) hgz (s_il C0 (d_X1_takeIn_70) hgz (s_ia C0 (d_X1_takeIn_72) hgz (s_il C0 (d_X1_takeIn_73) hgz (s_callS C0 hE (c_J9_min_7cf53 l) wg636 wg1110 wg635 wg17 ⟨by decide, by decide⟩ (by decide +kernel) ⟨by decide, by decide⟩ ⟨by decide, by decide⟩ (d_X1_takeIn_75) (fun x hx => (hno x hx).elim) ⟨by decide, by decide⟩ ⟨by decide, by decide⟩ (s_iax C0 (d_X1_takeIn_78) hgz (fun _ _ _ h => h)))))))))))))))))))))))))))) (okn rfl)))))))))),
  s_inc C0 (d_X1_takeIn_79) hgz (s_goto C0 (tgt := 11) (d_X1_takeIn_82) (by decide) hgz (fun _ _ _ h => h)),
  s_rv C0 hr (d_X1_takeIn_85) ⟨by decide, by decide⟩⟩
theorem c_X1_takeIn (l : Launch) : Ctr l yX1_takeIn cX1_takeIn 7 none 12 243 0 (fun sx => (nf G_X1_takeIn)) := ctr_of (by decide) gz gz ⟨rfl, rfl⟩ (fun p e s m args below meth c D ca ad sx sy A Q as M C0 hE hr hno hF => P_X1_takeIn (L_X1_takeIn C0 hE hr hno) hF)
theorem wg1108 : Cond.code ⟨"WeighedHall$Bringing", "chooseThings", "(LWeighedHall$Plan;I)V"⟩ prog_3_method_4_code 5 (Option.none : Option FieldType) ∈ GT := gt_mem 1228 (by decide +kernel) rfl
theorem wg9 : Cond.initialized "WeighedHall$Bringing" ∈ GT := gt_mem 129 (by decide +kernel) rfl
theorem wg1105 : Cond.methodLink "WeighedHall$Bringing" 18 ⟨"WeighedHall$Bringing", "chooseThings", "(LWeighedHall$Plan;I)V"⟩ ∈ GT := gt_mem 1225 (by decide +kernel) rfl
theorem wg1107 : Cond.instanceMethod ⟨"WeighedHall$Bringing", "chooseThings", "(LWeighedHall$Plan;I)V"⟩ ∈ GT := gt_mem 1227 (by decide +kernel) rfl
theorem ws70 : Cond.selects "WeighedHall$Bringing" ⟨"WeighedHall$Bringing", "chooseThings", "(LWeighedHall$Plan;I)V"⟩ ⟨"WeighedHall$Bringing", "chooseThings", "(LWeighedHall$Plan;I)V"⟩ ∈ GT := gt_mem 70 (by decide +kernel) rfl
theorem wg1114 : Cond.code ⟨"WeighedHall$Bringing", "takeIn", "(LWeighedHall$Plan;II)V"⟩ prog_3_method_3_code 7 (Option.none : Option FieldType) ∈ GT := gt_mem 1234 (by decide +kernel) rfl
theorem wg1111 : Cond.methodLink "WeighedHall$Bringing" 38 ⟨"WeighedHall$Bringing", "takeIn", "(LWeighedHall$Plan;II)V"⟩ ∈ GT := gt_mem 1231 (by decide +kernel) rfl
theorem wg1113 : Cond.instanceMethod ⟨"WeighedHall$Bringing", "takeIn", "(LWeighedHall$Plan;II)V"⟩ ∈ GT := gt_mem 1233 (by decide +kernel) rfl
theorem ws71 : Cond.selects "WeighedHall$Bringing" ⟨"WeighedHall$Bringing", "takeIn", "(LWeighedHall$Plan;II)V"⟩ ⟨"WeighedHall$Bringing", "takeIn", "(LWeighedHall$Plan;II)V"⟩ ∈ GT := gt_mem 71 (by decide +kernel) rfl
theorem d_X1_mostPounds_0 : decode cX1_mostPounds 0 = .ok (.aload_n 0, 1) := by decide +kernel
theorem d_X1_mostPounds_1 : decode cX1_mostPounds 1 = .ok (.aload_n 1, 1) := by decide +kernel
theorem d_X1_mostPounds_2 : decode cX1_mostPounds 2 = .ok (.iload_n 2, 1) := by decide +kernel
theorem d_X1_mostPounds_3 : decode cX1_mostPounds 3 = .ok (.invokevirtual 18, 3) := by decide +kernel
theorem d_X1_mostPounds_6 : decode cX1_mostPounds 6 = .ok (.iconst 0, 1) := by decide +kernel
theorem d_X1_mostPounds_7 : decode cX1_mostPounds 7 = .ok (.istore 4, 2) := by decide +kernel
theorem d_X1_mostPounds_9 : decode cX1_mostPounds 9 = .ok (.aload_n 0, 1) := by decide +kernel
theorem d_X1_mostPounds_10 : decode cX1_mostPounds 10 = .ok (.getfield 15, 3) := by decide +kernel
theorem d_X1_mostPounds_13 : decode cX1_mostPounds 13 = .ok (.iconst 0, 1) := by decide +kernel
theorem d_X1_mostPounds_14 : decode cX1_mostPounds 14 = .ok (.iconst 0, 1) := by decide +kernel
theorem d_X1_mostPounds_15 : decode cX1_mostPounds 15 = .ok (.iastore, 1) := by decide +kernel
theorem d_X1_mostPounds_16 : decode cX1_mostPounds 16 = .ok (.iconst 0, 1) := by decide +kernel
theorem d_X1_mostPounds_17 : decode cX1_mostPounds 17 = .ok (.istore 5, 2) := by decide +kernel
theorem d_X1_mostPounds_19 : decode cX1_mostPounds 19 = .ok (.iload 5, 2) := by decide +kernel
theorem d_X1_mostPounds_21 : decode cX1_mostPounds 21 = .ok (.aload_n 0, 1) := by decide +kernel
theorem d_X1_mostPounds_22 : decode cX1_mostPounds 22 = .ok (.getfield 22, 3) := by decide +kernel
theorem d_X1_mostPounds_25 : decode cX1_mostPounds 25 = .ok (.if_icmp .ge 89, 3) := by decide +kernel
theorem d_X1_mostPounds_28 : decode cX1_mostPounds 28 = .ok (.aload_n 1, 1) := by decide +kernel
theorem d_X1_mostPounds_29 : decode cX1_mostPounds 29 = .ok (.getfield 26, 3) := by decide +kernel
theorem d_X1_mostPounds_32 : decode cX1_mostPounds 32 = .ok (.aload_n 0, 1) := by decide +kernel
theorem d_X1_mostPounds_33 : decode cX1_mostPounds 33 = .ok (.getfield 9, 3) := by decide +kernel
theorem d_X1_mostPounds_36 : decode cX1_mostPounds 36 = .ok (.iload 5, 2) := by decide +kernel
theorem d_X1_mostPounds_38 : decode cX1_mostPounds 38 = .ok (.iaload, 1) := by decide +kernel
theorem d_X1_mostPounds_39 : decode cX1_mostPounds 39 = .ok (.iaload, 1) := by decide +kernel
theorem d_X1_mostPounds_40 : decode cX1_mostPounds 40 = .ok (.istore 6, 2) := by decide +kernel
theorem d_X1_mostPounds_42 : decode cX1_mostPounds 42 = .ok (.iload 4, 2) := by decide +kernel
theorem d_X1_mostPounds_44 : decode cX1_mostPounds 44 = .ok (.iconst 1, 1) := by decide +kernel
theorem d_X1_mostPounds_45 : decode cX1_mostPounds 45 = .ok (.iadd, 1) := by decide +kernel
theorem d_X1_mostPounds_46 : decode cX1_mostPounds 46 = .ok (.istore 7, 2) := by decide +kernel
theorem d_X1_mostPounds_48 : decode cX1_mostPounds 48 = .ok (.iload 7, 2) := by decide +kernel
theorem d_X1_mostPounds_50 : decode cX1_mostPounds 50 = .ok (.iload 4, 2) := by decide +kernel
theorem d_X1_mostPounds_52 : decode cX1_mostPounds 52 = .ok (.iload 6, 2) := by decide +kernel
theorem d_X1_mostPounds_54 : decode cX1_mostPounds 54 = .ok (.iadd, 1) := by decide +kernel
theorem d_X1_mostPounds_55 : decode cX1_mostPounds 55 = .ok (.if_icmp .gt 26, 3) := by decide +kernel
theorem d_X1_mostPounds_58 : decode cX1_mostPounds 58 = .ok (.iload 7, 2) := by decide +kernel
theorem d_X1_mostPounds_60 : decode cX1_mostPounds 60 = .ok (.sipush 1386, 3) := by decide +kernel
theorem d_X1_mostPounds_63 : decode cX1_mostPounds 63 = .ok (.if_icmp .gt 18, 3) := by decide +kernel
theorem d_X1_mostPounds_66 : decode cX1_mostPounds 66 = .ok (.aload_n 0, 1) := by decide +kernel
theorem d_X1_mostPounds_67 : decode cX1_mostPounds 67 = .ok (.getfield 15, 3) := by decide +kernel
theorem d_X1_mostPounds_70 : decode cX1_mostPounds 70 = .ok (.iload 7, 2) := by decide +kernel
theorem d_X1_mostPounds_72 : decode cX1_mostPounds 72 = .ok (.ldc 31, 2) := by decide +kernel
theorem d_X1_mostPounds_74 : decode cX1_mostPounds 74 = .ok (.iastore, 1) := by decide +kernel
theorem d_X1_mostPounds_75 : decode cX1_mostPounds 75 = .ok (.iinc 7 1, 3) := by decide +kernel
theorem d_X1_mostPounds_78 : decode cX1_mostPounds 78 = .ok (.goto (-30), 3) := by decide +kernel
theorem d_X1_mostPounds_81 : decode cX1_mostPounds 81 = .ok (.iload 4, 2) := by decide +kernel
theorem d_X1_mostPounds_83 : decode cX1_mostPounds 83 = .ok (.iload 6, 2) := by decide +kernel
theorem d_X1_mostPounds_85 : decode cX1_mostPounds 85 = .ok (.iadd, 1) := by decide +kernel
theorem d_X1_mostPounds_86 : decode cX1_mostPounds 86 = .ok (.sipush 1386, 3) := by decide +kernel
theorem d_X1_mostPounds_89 : decode cX1_mostPounds 89 = .ok (.invokestatic 32, 3) := by decide +kernel
theorem d_X1_mostPounds_92 : decode cX1_mostPounds 92 = .ok (.istore 4, 2) := by decide +kernel
theorem d_X1_mostPounds_94 : decode cX1_mostPounds 94 = .ok (.aload_n 0, 1) := by decide +kernel
theorem d_X1_mostPounds_95 : decode cX1_mostPounds 95 = .ok (.aload_n 1, 1) := by decide +kernel
theorem d_X1_mostPounds_96 : decode cX1_mostPounds 96 = .ok (.aload_n 0, 1) := by decide +kernel
theorem d_X1_mostPounds_97 : decode cX1_mostPounds 97 = .ok (.getfield 9, 3) := by decide +kernel
theorem d_X1_mostPounds_100 : decode cX1_mostPounds 100 = .ok (.iload 5, 2) := by decide +kernel
theorem d_X1_mostPounds_102 : decode cX1_mostPounds 102 = .ok (.iaload, 1) := by decide +kernel
theorem d_X1_mostPounds_103 : decode cX1_mostPounds 103 = .ok (.iload 4, 2) := by decide +kernel
theorem d_X1_mostPounds_105 : decode cX1_mostPounds 105 = .ok (.invokevirtual 38, 3) := by decide +kernel
theorem d_X1_mostPounds_108 : decode cX1_mostPounds 108 = .ok (.iinc 5 1, 3) := by decide +kernel
theorem d_X1_mostPounds_111 : decode cX1_mostPounds 111 = .ok (.goto (-92), 3) := by decide +kernel
theorem d_X1_mostPounds_114 : decode cX1_mostPounds 114 = .ok (.iload 4, 2) := by decide +kernel
theorem d_X1_mostPounds_116 : decode cX1_mostPounds 116 = .ok (.istore 5, 2) := by decide +kernel
theorem d_X1_mostPounds_118 : decode cX1_mostPounds 118 = .ok (.iload 5, 2) := by decide +kernel
theorem d_X1_mostPounds_120 : decode cX1_mostPounds 120 = .ok (.ifCond .le 23, 3) := by decide +kernel
theorem d_X1_mostPounds_123 : decode cX1_mostPounds 123 = .ok (.aload_n 0, 1) := by decide +kernel
theorem d_X1_mostPounds_124 : decode cX1_mostPounds 124 = .ok (.getfield 15, 3) := by decide +kernel
theorem d_X1_mostPounds_127 : decode cX1_mostPounds 127 = .ok (.iload 5, 2) := by decide +kernel
theorem d_X1_mostPounds_129 : decode cX1_mostPounds 129 = .ok (.iaload, 1) := by decide +kernel
theorem d_X1_mostPounds_130 : decode cX1_mostPounds 130 = .ok (.iload_n 3, 1) := by decide +kernel
theorem d_X1_mostPounds_131 : decode cX1_mostPounds 131 = .ok (.if_icmp .gt 6, 3) := by decide +kernel
theorem d_X1_mostPounds_134 : decode cX1_mostPounds 134 = .ok (.iload 5, 2) := by decide +kernel
theorem d_X1_mostPounds_136 : decode cX1_mostPounds 136 = .ok (.ireturn, 1) := by decide +kernel
theorem d_X1_mostPounds_137 : decode cX1_mostPounds 137 = .ok (.iinc 5 (-1), 3) := by decide +kernel
theorem d_X1_mostPounds_140 : decode cX1_mostPounds 140 = .ok (.goto (-22), 3) := by decide +kernel
theorem d_X1_mostPounds_143 : decode cX1_mostPounds 143 = .ok (.iconst 0, 1) := by decide +kernel
theorem d_X1_mostPounds_144 : decode cX1_mostPounds 144 = .ok (.ireturn, 1) := by decide +kernel
set_option maxRecDepth 100000 in
theorem L_X1_mostPounds {p : Program} {l : Launch} {e : Env} {s : State} {m : MethodId} {args : Array Value} {below : List Frame} {meth : Method} {c : Code} {D : va_G} {ca : Nat → ClassId} {ad sx sy : Nat → Nat} {A : Nat → Prop} {Q : QT} (C0 : CX p s m args meth c cX1_mostPounds 8 yX1_mostPounds.cls D ca ad A) (hE : EX sx sy A s s.heap) (hr : meth.sig.returnType = (some .int)) (hno : ∀ x ∈ c.exceptionTable.toList, False) : R_X1_mostPounds (JW p l e { frames := 13, cells := 0, slots := 6 * 0, locals := 269 } s m args below meth c 8 D ca ad A (vx_MQ below (Qn D ca ad A Q) (Qx D ca ad A Q) args s 0 (6 * 0) A) gz gz true) Q := ⟨s_aln C0 (d_X1_mostPounds_0) hgz (s_aln C0 (d_X1_mostPounds_1) hgz (s_iln C0 (d_X1_mostPounds_2) hgz (s_callV C0 hE (c_X1_chooseThings l) wg1108 wg1105 wg1107 ws70 wg9 ⟨by decide, by decide⟩ (by decide +kernel) (c0 := 1) rfl ⟨by decide, by decide⟩ ⟨by decide, by decide⟩ (d_X1_mostPounds_3) (fun x hx => (hno x hx).elim) ⟨by decide, by decide⟩ ⟨by decide, by decide⟩ (s_ic C0 (d_X1_mostPounds_6) hgz (s_is C0 (d_X1_mostPounds_7) hgz (s_aln C0 (d_X1_mostPounds_9) hgz (s_gr C0 (j := 2) (c0 := 1) rfl gX1 (by decide) rfl rfl wg330 (d_X1_mostPounds_10) hgz (s_ic C0 (d_X1_mostPounds_13) hgz (s_ic C0 (d_X1_mostPounds_14) hgz (s_iax C0 (d_X1_mostPounds_15) hgz (s_ic C0 (d_X1_mostPounds_16) hgz (s_is C0 (d_X1_mostPounds_17) hgz (fun _ _ _ h => h)) (okn rfl))) (okn rfl)) (okn rfl))))) (okn rfl))))),
  s_il C0 (d_X1_mostPounds_19) hgz (s_aln C0 (d_X1_mostPounds_21) hgz (s_gi C0 (j := 0) (c0 := 1) rfl gX1 (by decide) rfl (by decide) wg328 (d_X1_mostPounds_22) hgz (s_cge C0 (d_X1_mostPounds_25) (by decide) hgz hgz (fun _ _ _ h => h) (s_aln C0 (d_X1_mostPounds_28) hgz (s_grN C0 (j := 5) (c0 := 6) rfl gX6 (by decide) rfl rfl wn99 (d_X1_mostPounds_29) hgz (s_aln C0 (d_X1_mostPounds_32) hgz (s_gr C0 (j := 1) (c0 := 1) rfl gX1 (by decide) rfl rfl wg329 (d_X1_mostPounds_33) hgz (s_il C0 (d_X1_mostPounds_36) hgz (s_ia C0 (d_X1_mostPounds_38) hgz (s_ia C0 (d_X1_mostPounds_39) hgz (s_is C0 (d_X1_mostPounds_40) hgz (s_il C0 (d_X1_mostPounds_42) hgz (s_ic C0 (d_X1_mostPounds_44) hgz (s_add C0 (d_X1_mostPounds_45) hgz (s_is C0 (d_X1_mostPounds_46) hgz (fun _ _ _ h => h))) (okn rfl)))))))))))))),
  s_il C0 (d_X1_mostPounds_48) hgz (s_il C0 (d_X1_mostPounds_50) hgz (s_il C0 (d_X1_mostPounds_52) hgz (s_add C0 (d_X1_mostPounds_54) hgz (s_cgt C0 (d_X1_mostPounds_55) (by decide) hgz hgz (fun _ _ _ h => h) (s_il C0 (d_X1_mostPounds_58) hgz (s_si C0 (d_X1_mostPounds_60) hgz (s_cgt C0 (d_X1_mostPounds_63) (by decide) hgz hgz (fun _ _ _ h => h) (s_aln C0 (d_X1_mostPounds_66) hgz (s_gr C0 (j := 2) (c0 := 1) rfl gX1 (by decide) rfl rfl wg330 (d_X1_mostPounds_67) hgz (s_il C0 (d_X1_mostPounds_70) hgz (s_ldc C0 (n := 1000000) wg1109 (d_X1_mostPounds_72) hgz (s_iax C0 (d_X1_mostPounds_74) hgz (s_inc C0 (d_X1_mostPounds_75) hgz (s_goto C0 (tgt := 48) (d_X1_mostPounds_78) (by decide) hgz (fun _ _ _ h => h)))) (okn rfl)))))) (okn rfl) rfl)))))),
  s_il C0 (d_X1_mostPounds_81) hgz (s_il C0 (d_X1_mostPounds_83) hgz (s_add C0 (d_X1_mostPounds_85) hgz (s_si C0 (d_X1_mostPounds_86) hgz (s_callS C0 hE (c_J9_min_7cf53 l) wg636 wg1110 wg635 wg17 ⟨by decide, by decide⟩ (by decide +kernel) ⟨by decide, by decide⟩ ⟨by decide, by decide⟩ (d_X1_mostPounds_89) (fun x hx => (hno x hx).elim) ⟨by decide, by decide⟩ ⟨by decide, by decide⟩ (s_is C0 (d_X1_mostPounds_92) hgz (s_aln C0 (d_X1_mostPounds_94) hgz (s_aln C0 (d_X1_mostPounds_95) hgz (s_aln C0 (d_X1_mostPounds_96) hgz (s_gr C0 (j := 1) (c0 := 1) rfl gX1 (by decide) rfl rfl wg329 (d_X1_mostPounds_97) hgz (s_il C0 (d_X1_mostPounds_100) hgz (s_ia C0 (d_X1_mostPounds_102) hgz (s_il C0 (d_X1_mostPounds_103) hgz (s_callV C0 hE (c_X1_takeIn l) wg1114 wg1111 wg1113 ws71 wg9 ⟨by decide, by decide⟩ (by decide +kernel) (c0 := 1) rfl ⟨by decide, by decide⟩ ⟨by decide, by decide⟩ (d_X1_mostPounds_105) (fun x hx => (hno x hx).elim) ⟨by decide, by decide⟩ ⟨by decide, by decide⟩ (s_inc C0 (d_X1_mostPounds_108) hgz (s_goto C0 (tgt := 19) (d_X1_mostPounds_111) (by decide) hgz (fun _ _ _ h => h))))))))))))) (okn rfl) rfl))),
  s_il C0 (d_X1_mostPounds_114) hgz (s_is C0 (d_X1_mostPounds_116) hgz (fun _ _ _ h => h)),
  s_il C0 (d_X1_mostPounds_118) hgz (s_zle C0 (d_X1_mostPounds_120) (by decide) hgz hgz (fun _ _ _ h => h) (s_aln C0 (d_X1_mostPounds_123) hgz (s_gr C0 (j := 2) (c0 := 1) rfl gX1 (by decide) rfl rfl wg330 (d_X1_mostPounds_124) hgz (s_il C0 (d_X1_mostPounds_127) hgz (s_ia C0 (d_X1_mostPounds_129) hgz (s_iln C0 (d_X1_mostPounds_130) hgz (s_cgt C0 (d_X1_mostPounds_131) (by decide) hgz hgz (fun _ _ _ h => h) (s_il C0 (d_X1_mostPounds_134) hgz (s_ri C0 hr (d_X1_mostPounds_136) ⟨by decide, by decide⟩))))))))),
  s_inc C0 (d_X1_mostPounds_137) hgz (s_goto C0 (tgt := 118) (d_X1_mostPounds_140) (by decide) hgz (fun _ _ _ h => h)),
  s_ic C0 (d_X1_mostPounds_143) hgz (s_ri C0 hr (d_X1_mostPounds_144) ⟨by decide, by decide⟩) (okn rfl)⟩
theorem c_X1_mostPounds (l : Launch) : Ctr l yX1_mostPounds cX1_mostPounds 8 (some .int) 13 269 0 (fun sx => (nf G_X1_mostPounds)) := ctr_of (by decide) gz gz ⟨rfl, rfl⟩ (fun p e s m args below meth c D ca ad sx sy A Q as M C0 hE hr hno hF => P_X1_mostPounds (L_X1_mostPounds C0 hE hr hno) hF)
theorem wg297 : Cond.fieldLink "WeighedHall$Carrying" 38 "WeighedHall$Carrying" "carriers" "I" ∈ GT := gt_mem 417 (by decide +kernel) rfl
theorem wn1029 : Cond.methodLinkNest "WeighedHall$Carrying" 78 ⟨"WeighedHall", "cut", "(II)I"⟩ "WeighedHall" ∈ NT := nt_mem 1029 (by decide +kernel) rfl
theorem wn121 : Cond.fieldLinkNest "WeighedHall$Carrying" 75 "WeighedHall$Plan" "minute" "[I" "WeighedHall" ∈ NT := nt_mem 121 (by decide +kernel) rfl
theorem wn82 : Cond.fieldLinkNest "WeighedHall$Carrying" 72 "WeighedHall$Plan" "arm" "[I" "WeighedHall" ∈ NT := nt_mem 82 (by decide +kernel) rfl
theorem wg298 : Cond.fieldLink "WeighedHall$Carrying" 15 "WeighedHall$Carrying" "most" "[I" ∈ GT := gt_mem 418 (by decide +kernel) rfl
theorem wn1024 : Cond.methodLinkNest "WeighedHall$Carrying" 64 ⟨"WeighedHall", "isIn", "(II)Z"⟩ "WeighedHall" ∈ NT := nt_mem 1024 (by decide +kernel) rfl
theorem wn125 : Cond.fieldLinkNest "WeighedHall$Carrying" 61 "WeighedHall$Plan" "pro" "[I" "WeighedHall" ∈ NT := nt_mem 125 (by decide +kernel) rfl
theorem wn75 : Cond.fieldLinkNest "WeighedHall$Carrying" 69 "WeighedHall$Plan" "persons" "I" "WeighedHall" ∈ NT := nt_mem 75 (by decide +kernel) rfl
theorem d_X2_chooseCarriers_0 : decode cX2_chooseCarriers 0 = .ok (.aload_n 0, 1) := by decide +kernel
theorem d_X2_chooseCarriers_1 : decode cX2_chooseCarriers 1 = .ok (.iconst 0, 1) := by decide +kernel
theorem d_X2_chooseCarriers_2 : decode cX2_chooseCarriers 2 = .ok (.putfield 38, 3) := by decide +kernel
theorem d_X2_chooseCarriers_5 : decode cX2_chooseCarriers 5 = .ok (.iconst 0, 1) := by decide +kernel
theorem d_X2_chooseCarriers_6 : decode cX2_chooseCarriers 6 = .ok (.istore_n 3, 1) := by decide +kernel
theorem d_X2_chooseCarriers_7 : decode cX2_chooseCarriers 7 = .ok (.iload_n 3, 1) := by decide +kernel
theorem d_X2_chooseCarriers_8 : decode cX2_chooseCarriers 8 = .ok (.aload_n 1, 1) := by decide +kernel
theorem d_X2_chooseCarriers_9 : decode cX2_chooseCarriers 9 = .ok (.getfield 69, 3) := by decide +kernel
theorem d_X2_chooseCarriers_12 : decode cX2_chooseCarriers 12 = .ok (.if_icmp .ge 70, 3) := by decide +kernel
theorem d_X2_chooseCarriers_15 : decode cX2_chooseCarriers 15 = .ok (.iload_n 3, 1) := by decide +kernel
theorem d_X2_chooseCarriers_16 : decode cX2_chooseCarriers 16 = .ok (.aload_n 1, 1) := by decide +kernel
theorem d_X2_chooseCarriers_17 : decode cX2_chooseCarriers 17 = .ok (.getfield 61, 3) := by decide +kernel
theorem d_X2_chooseCarriers_20 : decode cX2_chooseCarriers 20 = .ok (.iload_n 2, 1) := by decide +kernel
theorem d_X2_chooseCarriers_21 : decode cX2_chooseCarriers 21 = .ok (.iaload, 1) := by decide +kernel
theorem d_X2_chooseCarriers_22 : decode cX2_chooseCarriers 22 = .ok (.invokestatic 64, 3) := by decide +kernel
theorem d_X2_chooseCarriers_25 : decode cX2_chooseCarriers 25 = .ok (.ifCond .eq 51, 3) := by decide +kernel
theorem d_X2_chooseCarriers_28 : decode cX2_chooseCarriers 28 = .ok (.aload_n 0, 1) := by decide +kernel
theorem d_X2_chooseCarriers_29 : decode cX2_chooseCarriers 29 = .ok (.getfield 38, 3) := by decide +kernel
theorem d_X2_chooseCarriers_32 : decode cX2_chooseCarriers 32 = .ok (.bipush 10, 2) := by decide +kernel
theorem d_X2_chooseCarriers_34 : decode cX2_chooseCarriers 34 = .ok (.if_icmp .ge 42, 3) := by decide +kernel
theorem d_X2_chooseCarriers_37 : decode cX2_chooseCarriers 37 = .ok (.aload_n 0, 1) := by decide +kernel
theorem d_X2_chooseCarriers_38 : decode cX2_chooseCarriers 38 = .ok (.getfield 15, 3) := by decide +kernel
theorem d_X2_chooseCarriers_41 : decode cX2_chooseCarriers 41 = .ok (.aload_n 0, 1) := by decide +kernel
theorem d_X2_chooseCarriers_42 : decode cX2_chooseCarriers 42 = .ok (.getfield 38, 3) := by decide +kernel
theorem d_X2_chooseCarriers_45 : decode cX2_chooseCarriers 45 = .ok (.bipush 60, 2) := by decide +kernel
theorem d_X2_chooseCarriers_47 : decode cX2_chooseCarriers 47 = .ok (.aload_n 1, 1) := by decide +kernel
theorem d_X2_chooseCarriers_48 : decode cX2_chooseCarriers 48 = .ok (.getfield 72, 3) := by decide +kernel
theorem d_X2_chooseCarriers_51 : decode cX2_chooseCarriers 51 = .ok (.iload_n 3, 1) := by decide +kernel
theorem d_X2_chooseCarriers_52 : decode cX2_chooseCarriers 52 = .ok (.iaload, 1) := by decide +kernel
theorem d_X2_chooseCarriers_53 : decode cX2_chooseCarriers 53 = .ok (.imul, 1) := by decide +kernel
theorem d_X2_chooseCarriers_54 : decode cX2_chooseCarriers 54 = .ok (.aload_n 1, 1) := by decide +kernel
theorem d_X2_chooseCarriers_55 : decode cX2_chooseCarriers 55 = .ok (.getfield 75, 3) := by decide +kernel
theorem d_X2_chooseCarriers_58 : decode cX2_chooseCarriers 58 = .ok (.iload_n 2, 1) := by decide +kernel
theorem d_X2_chooseCarriers_59 : decode cX2_chooseCarriers 59 = .ok (.iaload, 1) := by decide +kernel
theorem d_X2_chooseCarriers_60 : decode cX2_chooseCarriers 60 = .ok (.iconst 1, 1) := by decide +kernel
theorem d_X2_chooseCarriers_61 : decode cX2_chooseCarriers 61 = .ok (.iadd, 1) := by decide +kernel
theorem d_X2_chooseCarriers_62 : decode cX2_chooseCarriers 62 = .ok (.invokestatic 78, 3) := by decide +kernel
theorem d_X2_chooseCarriers_65 : decode cX2_chooseCarriers 65 = .ok (.iastore, 1) := by decide +kernel
theorem d_X2_chooseCarriers_66 : decode cX2_chooseCarriers 66 = .ok (.aload_n 0, 1) := by decide +kernel
theorem d_X2_chooseCarriers_67 : decode cX2_chooseCarriers 67 = .ok (.dup, 1) := by decide +kernel
theorem d_X2_chooseCarriers_68 : decode cX2_chooseCarriers 68 = .ok (.getfield 38, 3) := by decide +kernel
theorem d_X2_chooseCarriers_71 : decode cX2_chooseCarriers 71 = .ok (.iconst 1, 1) := by decide +kernel
theorem d_X2_chooseCarriers_72 : decode cX2_chooseCarriers 72 = .ok (.iadd, 1) := by decide +kernel
theorem d_X2_chooseCarriers_73 : decode cX2_chooseCarriers 73 = .ok (.putfield 38, 3) := by decide +kernel
theorem d_X2_chooseCarriers_76 : decode cX2_chooseCarriers 76 = .ok (.iinc 3 1, 3) := by decide +kernel
theorem d_X2_chooseCarriers_79 : decode cX2_chooseCarriers 79 = .ok (.goto (-72), 3) := by decide +kernel
theorem d_X2_chooseCarriers_82 : decode cX2_chooseCarriers 82 = .ok (.return_, 1) := by decide +kernel
set_option maxRecDepth 100000 in
theorem L_X2_chooseCarriers {p : Program} {l : Launch} {e : Env} {s : State} {m : MethodId} {args : Array Value} {below : List Frame} {meth : Method} {c : Code} {D : va_G} {ca : Nat → ClassId} {ad sx sy : Nat → Nat} {A : Nat → Prop} {Q : QT} (C0 : CX p s m args meth c cX2_chooseCarriers 4 yX2_chooseCarriers.cls D ca ad A) (hE : EX sx sy A s s.heap) (hr : meth.sig.returnType = none) (hno : ∀ x ∈ c.exceptionTable.toList, False) : R_X2_chooseCarriers (JW p l e { frames := 11, cells := 0, slots := 6 * 0, locals := 221 } s m args below meth c 4 D ca ad A (vx_MQ below (Qn D ca ad A Q) (Qx D ca ad A Q) args s 0 (6 * 0) A) gz gz true) Q := ⟨s_aln C0 (d_X2_chooseCarriers_0) hgz (s_ic C0 (d_X2_chooseCarriers_1) hgz (s_pi C0 (j := 2) (c0 := 2) rfl gX2 tyX2_ok nmX2 (by decide) rfl (by decide) rfl rfl wg297 (d_X2_chooseCarriers_2) hgz (s_ic C0 (d_X2_chooseCarriers_5) hgz (s_isn C0 (d_X2_chooseCarriers_6) hgz (fun _ _ _ h => h)) (okn rfl))) (okn rfl)),
  s_iln C0 (d_X2_chooseCarriers_7) hgz (s_aln C0 (d_X2_chooseCarriers_8) hgz (s_giN C0 (j := 0) (c0 := 6) rfl gX6 (by decide) rfl (by decide) wn75 (d_X2_chooseCarriers_9) hgz (s_cge C0 (d_X2_chooseCarriers_12) (by decide) hgz hgz (fun _ _ _ h => h) (s_iln C0 (d_X2_chooseCarriers_15) hgz (s_aln C0 (d_X2_chooseCarriers_16) hgz (s_grN C0 (j := 12) (c0 := 6) rfl gX6 (by decide) rfl rfl wn125 (d_X2_chooseCarriers_17) hgz (s_iln C0 (d_X2_chooseCarriers_20) hgz (s_ia C0 (d_X2_chooseCarriers_21) hgz (s_callSN C0 hE (c_X10_isIn l) wg491 wn1024 wg490 wg1 ⟨by decide, by decide⟩ (by decide +kernel) ⟨by decide, by decide⟩ ⟨by decide, by decide⟩ (d_X2_chooseCarriers_22) (fun x hx => (hno x hx).elim) ⟨by decide, by decide⟩ ⟨by decide, by decide⟩ (s_zeq C0 (d_X2_chooseCarriers_25) (by decide) hgz hgz (fun _ _ _ h => h) (s_aln C0 (d_X2_chooseCarriers_28) hgz (s_gi C0 (j := 2) (c0 := 2) rfl gX2 (by decide) rfl (by decide) wg297 (d_X2_chooseCarriers_29) hgz (s_bi C0 (d_X2_chooseCarriers_32) hgz (s_cge C0 (d_X2_chooseCarriers_34) (by decide) hgz hgz (fun _ _ _ h => h) (s_aln C0 (d_X2_chooseCarriers_37) hgz (s_gr C0 (j := 3) (c0 := 2) rfl gX2 (by decide) rfl rfl wg298 (d_X2_chooseCarriers_38) hgz (s_aln C0 (d_X2_chooseCarriers_41) hgz (s_gi C0 (j := 2) (c0 := 2) rfl gX2 (by decide) rfl (by decide) wg297 (d_X2_chooseCarriers_42) hgz (s_bi C0 (d_X2_chooseCarriers_45) hgz (s_aln C0 (d_X2_chooseCarriers_47) hgz (s_grN C0 (j := 2) (c0 := 6) rfl gX6 (by decide) rfl rfl wn82 (d_X2_chooseCarriers_48) hgz (s_iln C0 (d_X2_chooseCarriers_51) hgz (s_ia C0 (d_X2_chooseCarriers_52) hgz (s_mul C0 (d_X2_chooseCarriers_53) hgz (s_aln C0 (d_X2_chooseCarriers_54) hgz (s_grN C0 (j := 11) (c0 := 6) rfl gX6 (by decide) rfl rfl wn121 (d_X2_chooseCarriers_55) hgz (s_iln C0 (d_X2_chooseCarriers_58) hgz (s_ia C0 (d_X2_chooseCarriers_59) hgz (s_ic C0 (d_X2_chooseCarriers_60) hgz (s_add C0 (d_X2_chooseCarriers_61) hgz (s_callSN C0 hE (c_X10_cut l) wg867 wn1029 wg866 wg1 ⟨by decide, by decide⟩ (by decide +kernel) ⟨by decide, by decide⟩ ⟨by decide, by decide⟩ (d_X2_chooseCarriers_62) (fun x hx => (hno x hx).elim) ⟨by decide, by decide⟩ ⟨by decide, by decide⟩ (s_iax C0 (d_X2_chooseCarriers_65) hgz (s_aln C0 (d_X2_chooseCarriers_66) hgz (s_dup C0 (d_X2_chooseCarriers_67) hgz (s_gi C0 (j := 2) (c0 := 2) rfl gX2 (by decide) rfl (by decide) wg297 (d_X2_chooseCarriers_68) hgz (s_ic C0 (d_X2_chooseCarriers_71) hgz (s_add C0 (d_X2_chooseCarriers_72) hgz (s_pi C0 (j := 2) (c0 := 2) rfl gX2 tyX2_ok nmX2 (by decide) rfl (by decide) rfl rfl wg297 (d_X2_chooseCarriers_73) hgz (fun _ _ _ h => h))) (okn rfl)))))))) (okn rfl))))))))))) (okn rfl) rfl)))))) (okn rfl) rfl))))))))))))),
  s_inc C0 (d_X2_chooseCarriers_76) hgz (s_goto C0 (tgt := 7) (d_X2_chooseCarriers_79) (by decide) hgz (fun _ _ _ h => h)),
  s_rv C0 hr (d_X2_chooseCarriers_82) ⟨by decide, by decide⟩⟩
theorem c_X2_chooseCarriers (l : Launch) : Ctr l yX2_chooseCarriers cX2_chooseCarriers 4 none 11 221 0 (fun sx => (nf G_X2_chooseCarriers)) := ctr_of (by decide) gz gz ⟨rfl, rfl⟩ (fun p e s m args below meth c D ca ad sx sy A Q as M C0 hE hr hno hF => P_X2_chooseCarriers (L_X2_chooseCarriers C0 hE hr hno) hF)
theorem wg295 : Cond.fieldLink "WeighedHall$Carrying" 42 "WeighedHall$Carrying" "things" "I" ∈ GT := gt_mem 415 (by decide +kernel) rfl
theorem wn100 : Cond.fieldLinkNest "WeighedHall$Carrying" 68 "WeighedHall$Plan" "weight" "[I" "WeighedHall" ∈ NT := nt_mem 100 (by decide +kernel) rfl
theorem wg296 : Cond.fieldLink "WeighedHall$Carrying" 11 "WeighedHall$Carrying" "weight" "[I" ∈ GT := gt_mem 416 (by decide +kernel) rfl
theorem wn94 : Cond.fieldLinkNest "WeighedHall$Carrying" 58 "WeighedHall$Plan" "owner" "[I" "WeighedHall" ∈ NT := nt_mem 94 (by decide +kernel) rfl
theorem wn107 : Cond.fieldLinkNest "WeighedHall$Carrying" 55 "WeighedHall$Plan" "door" "[I" "WeighedHall" ∈ NT := nt_mem 107 (by decide +kernel) rfl
theorem wn87 : Cond.fieldLinkNest "WeighedHall$Carrying" 52 "WeighedHall$Plan" "things" "I" "WeighedHall" ∈ NT := nt_mem 87 (by decide +kernel) rfl
theorem d_X2_chooseThings_0 : decode cX2_chooseThings 0 = .ok (.aload_n 0, 1) := by decide +kernel
theorem d_X2_chooseThings_1 : decode cX2_chooseThings 1 = .ok (.iconst 0, 1) := by decide +kernel
theorem d_X2_chooseThings_2 : decode cX2_chooseThings 2 = .ok (.putfield 42, 3) := by decide +kernel
theorem d_X2_chooseThings_5 : decode cX2_chooseThings 5 = .ok (.iconst 0, 1) := by decide +kernel
theorem d_X2_chooseThings_6 : decode cX2_chooseThings 6 = .ok (.istore_n 3, 1) := by decide +kernel
theorem d_X2_chooseThings_7 : decode cX2_chooseThings 7 = .ok (.iload_n 3, 1) := by decide +kernel
theorem d_X2_chooseThings_8 : decode cX2_chooseThings 8 = .ok (.aload_n 1, 1) := by decide +kernel
theorem d_X2_chooseThings_9 : decode cX2_chooseThings 9 = .ok (.getfield 52, 3) := by decide +kernel
theorem d_X2_chooseThings_12 : decode cX2_chooseThings 12 = .ok (.if_icmp .ge 71, 3) := by decide +kernel
theorem d_X2_chooseThings_15 : decode cX2_chooseThings 15 = .ok (.aload_n 0, 1) := by decide +kernel
theorem d_X2_chooseThings_16 : decode cX2_chooseThings 16 = .ok (.getfield 42, 3) := by decide +kernel
theorem d_X2_chooseThings_19 : decode cX2_chooseThings 19 = .ok (.bipush 10, 2) := by decide +kernel
theorem d_X2_chooseThings_21 : decode cX2_chooseThings 21 = .ok (.if_icmp .ge 62, 3) := by decide +kernel
theorem d_X2_chooseThings_24 : decode cX2_chooseThings 24 = .ok (.aload_n 1, 1) := by decide +kernel
theorem d_X2_chooseThings_25 : decode cX2_chooseThings 25 = .ok (.getfield 55, 3) := by decide +kernel
theorem d_X2_chooseThings_28 : decode cX2_chooseThings 28 = .ok (.iload_n 3, 1) := by decide +kernel
theorem d_X2_chooseThings_29 : decode cX2_chooseThings 29 = .ok (.iaload, 1) := by decide +kernel
theorem d_X2_chooseThings_30 : decode cX2_chooseThings 30 = .ok (.iconst (-1), 1) := by decide +kernel
theorem d_X2_chooseThings_31 : decode cX2_chooseThings 31 = .ok (.if_icmp .ne 46, 3) := by decide +kernel
theorem d_X2_chooseThings_34 : decode cX2_chooseThings 34 = .ok (.aload_n 1, 1) := by decide +kernel
theorem d_X2_chooseThings_35 : decode cX2_chooseThings 35 = .ok (.getfield 58, 3) := by decide +kernel
theorem d_X2_chooseThings_38 : decode cX2_chooseThings 38 = .ok (.iload_n 3, 1) := by decide +kernel
theorem d_X2_chooseThings_39 : decode cX2_chooseThings 39 = .ok (.iaload, 1) := by decide +kernel
theorem d_X2_chooseThings_40 : decode cX2_chooseThings 40 = .ok (.aload_n 1, 1) := by decide +kernel
theorem d_X2_chooseThings_41 : decode cX2_chooseThings 41 = .ok (.getfield 61, 3) := by decide +kernel
theorem d_X2_chooseThings_44 : decode cX2_chooseThings 44 = .ok (.iload_n 2, 1) := by decide +kernel
theorem d_X2_chooseThings_45 : decode cX2_chooseThings 45 = .ok (.iaload, 1) := by decide +kernel
theorem d_X2_chooseThings_46 : decode cX2_chooseThings 46 = .ok (.invokestatic 64, 3) := by decide +kernel
theorem d_X2_chooseThings_49 : decode cX2_chooseThings 49 = .ok (.ifCond .eq 28, 3) := by decide +kernel
theorem d_X2_chooseThings_52 : decode cX2_chooseThings 52 = .ok (.aload_n 0, 1) := by decide +kernel
theorem d_X2_chooseThings_53 : decode cX2_chooseThings 53 = .ok (.getfield 11, 3) := by decide +kernel
theorem d_X2_chooseThings_56 : decode cX2_chooseThings 56 = .ok (.aload_n 0, 1) := by decide +kernel
theorem d_X2_chooseThings_57 : decode cX2_chooseThings 57 = .ok (.getfield 42, 3) := by decide +kernel
theorem d_X2_chooseThings_60 : decode cX2_chooseThings 60 = .ok (.aload_n 1, 1) := by decide +kernel
theorem d_X2_chooseThings_61 : decode cX2_chooseThings 61 = .ok (.getfield 68, 3) := by decide +kernel
theorem d_X2_chooseThings_64 : decode cX2_chooseThings 64 = .ok (.iload_n 3, 1) := by decide +kernel
theorem d_X2_chooseThings_65 : decode cX2_chooseThings 65 = .ok (.iaload, 1) := by decide +kernel
theorem d_X2_chooseThings_66 : decode cX2_chooseThings 66 = .ok (.iastore, 1) := by decide +kernel
theorem d_X2_chooseThings_67 : decode cX2_chooseThings 67 = .ok (.aload_n 0, 1) := by decide +kernel
theorem d_X2_chooseThings_68 : decode cX2_chooseThings 68 = .ok (.dup, 1) := by decide +kernel
theorem d_X2_chooseThings_69 : decode cX2_chooseThings 69 = .ok (.getfield 42, 3) := by decide +kernel
theorem d_X2_chooseThings_72 : decode cX2_chooseThings 72 = .ok (.iconst 1, 1) := by decide +kernel
theorem d_X2_chooseThings_73 : decode cX2_chooseThings 73 = .ok (.iadd, 1) := by decide +kernel
theorem d_X2_chooseThings_74 : decode cX2_chooseThings 74 = .ok (.putfield 42, 3) := by decide +kernel
theorem d_X2_chooseThings_77 : decode cX2_chooseThings 77 = .ok (.iinc 3 1, 3) := by decide +kernel
theorem d_X2_chooseThings_80 : decode cX2_chooseThings 80 = .ok (.goto (-73), 3) := by decide +kernel
theorem d_X2_chooseThings_83 : decode cX2_chooseThings 83 = .ok (.return_, 1) := by decide +kernel
set_option maxRecDepth 100000 in
theorem L_X2_chooseThings {p : Program} {l : Launch} {e : Env} {s : State} {m : MethodId} {args : Array Value} {below : List Frame} {meth : Method} {c : Code} {D : va_G} {ca : Nat → ClassId} {ad sx sy : Nat → Nat} {A : Nat → Prop} {Q : QT} (C0 : CX p s m args meth c cX2_chooseThings 4 yX2_chooseThings.cls D ca ad A) (hE : EX sx sy A s s.heap) (hr : meth.sig.returnType = none) (hno : ∀ x ∈ c.exceptionTable.toList, False) : R_X2_chooseThings (JW p l e { frames := 11, cells := 0, slots := 6 * 0, locals := 221 } s m args below meth c 4 D ca ad A (vx_MQ below (Qn D ca ad A Q) (Qx D ca ad A Q) args s 0 (6 * 0) A) gz gz true) Q := ⟨s_aln C0 (d_X2_chooseThings_0) hgz (s_ic C0 (d_X2_chooseThings_1) hgz (s_pi C0 (j := 0) (c0 := 2) rfl gX2 tyX2_ok nmX2 (by decide) rfl (by decide) rfl rfl wg295 (d_X2_chooseThings_2) hgz (s_ic C0 (d_X2_chooseThings_5) hgz (s_isn C0 (d_X2_chooseThings_6) hgz (fun _ _ _ h => h)) (okn rfl))) (okn rfl)),
  s_iln C0 (d_X2_chooseThings_7) hgz (s_aln C0 (d_X2_chooseThings_8) hgz (s_giN C0 (j := 3) (c0 := 6) rfl gX6 (by decide) rfl (by decide) wn87 (d_X2_chooseThings_9) hgz (s_cge C0 (d_X2_chooseThings_12) (by decide) hgz hgz (fun _ _ _ h => h) (s_aln C0 (d_X2_chooseThings_15) hgz (s_gi C0 (j := 0) (c0 := 2) rfl gX2 (by decide) rfl (by decide) wg295 (d_X2_chooseThings_16) hgz (s_bi C0 (d_X2_chooseThings_19) hgz (s_cge C0 (d_X2_chooseThings_21) (by decide) hgz hgz (fun _ _ _ h => h) (s_aln C0 (d_X2_chooseThings_24) hgz (s_grN C0 (j := 6) (c0 := 6) rfl gX6 (by decide) rfl rfl wn107 (d_X2_chooseThings_25) hgz (s_iln C0 (d_X2_chooseThings_28) hgz (s_ia C0 (d_X2_chooseThings_29) hgz (s_ic C0 (d_X2_chooseThings_30) hgz (s_cne C0 (d_X2_chooseThings_31) (by decide) hgz hgz (fun _ _ _ h => h) (s_aln C0 (d_X2_chooseThings_34) hgz (s_grN C0 (j := 4) (c0 := 6) rfl gX6 (by decide) rfl rfl wn94 (d_X2_chooseThings_35) hgz (s_iln C0 (d_X2_chooseThings_38) hgz (s_ia C0 (d_X2_chooseThings_39) hgz (s_aln C0 (d_X2_chooseThings_40) hgz (s_grN C0 (j := 12) (c0 := 6) rfl gX6 (by decide) rfl rfl wn125 (d_X2_chooseThings_41) hgz (s_iln C0 (d_X2_chooseThings_44) hgz (s_ia C0 (d_X2_chooseThings_45) hgz (s_callSN C0 hE (c_X10_isIn l) wg491 wn1024 wg490 wg1 ⟨by decide, by decide⟩ (by decide +kernel) ⟨by decide, by decide⟩ ⟨by decide, by decide⟩ (d_X2_chooseThings_46) (fun x hx => (hno x hx).elim) ⟨by decide, by decide⟩ ⟨by decide, by decide⟩ (s_zeq C0 (d_X2_chooseThings_49) (by decide) hgz hgz (fun _ _ _ h => h) (s_aln C0 (d_X2_chooseThings_52) hgz (s_gr C0 (j := 1) (c0 := 2) rfl gX2 (by decide) rfl rfl wg296 (d_X2_chooseThings_53) hgz (s_aln C0 (d_X2_chooseThings_56) hgz (s_gi C0 (j := 0) (c0 := 2) rfl gX2 (by decide) rfl (by decide) wg295 (d_X2_chooseThings_57) hgz (s_aln C0 (d_X2_chooseThings_60) hgz (s_grN C0 (j := 5) (c0 := 6) rfl gX6 (by decide) rfl rfl wn100 (d_X2_chooseThings_61) hgz (s_iln C0 (d_X2_chooseThings_64) hgz (s_ia C0 (d_X2_chooseThings_65) hgz (s_iax C0 (d_X2_chooseThings_66) hgz (s_aln C0 (d_X2_chooseThings_67) hgz (s_dup C0 (d_X2_chooseThings_68) hgz (s_gi C0 (j := 0) (c0 := 2) rfl gX2 (by decide) rfl (by decide) wg295 (d_X2_chooseThings_69) hgz (s_ic C0 (d_X2_chooseThings_72) hgz (s_add C0 (d_X2_chooseThings_73) hgz (s_pi C0 (j := 0) (c0 := 2) rfl gX2 tyX2_ok nmX2 (by decide) rfl (by decide) rfl rfl wg295 (d_X2_chooseThings_74) hgz (fun _ _ _ h => h))) (okn rfl))))))))))))))))))))))))) (okn rfl))))))) (okn rfl) rfl)))))),
  s_inc C0 (d_X2_chooseThings_77) hgz (s_goto C0 (tgt := 7) (d_X2_chooseThings_80) (by decide) hgz (fun _ _ _ h => h)),
  s_rv C0 hr (d_X2_chooseThings_83) ⟨by decide, by decide⟩⟩
theorem c_X2_chooseThings (l : Launch) : Ctr l yX2_chooseThings cX2_chooseThings 4 none 11 221 0 (fun sx => (nf G_X2_chooseThings)) := ctr_of (by decide) gz gz ⟨rfl, rfl⟩ (fun p e s m args below meth c D ca ad sx sy A Q as M C0 hE hr hno hF => P_X2_chooseThings (L_X2_chooseThings C0 hE hr hno) hF)
theorem wg1030 : Cond.constant "WeighedHall$Carrying" 41 1000000 ∈ GT := gt_mem 1150 (by decide +kernel) rfl
theorem d_X2_needWith_0 : decode cX2_needWith 0 = .ok (.iload_n 1, 1) := by decide +kernel
theorem d_X2_needWith_1 : decode cX2_needWith 1 = .ok (.ldc 41, 2) := by decide +kernel
theorem d_X2_needWith_3 : decode cX2_needWith 3 = .ok (.if_icmp .ne 6, 3) := by decide +kernel
theorem d_X2_needWith_6 : decode cX2_needWith 6 = .ok (.ldc 41, 2) := by decide +kernel
theorem d_X2_needWith_8 : decode cX2_needWith 8 = .ok (.ireturn, 1) := by decide +kernel
theorem d_X2_needWith_9 : decode cX2_needWith 9 = .ok (.iload_n 1, 1) := by decide +kernel
theorem d_X2_needWith_10 : decode cX2_needWith 10 = .ok (.sipush 4096, 3) := by decide +kernel
theorem d_X2_needWith_13 : decode cX2_needWith 13 = .ok (.idiv, 1) := by decide +kernel
theorem d_X2_needWith_14 : decode cX2_needWith 14 = .ok (.istore_n 3, 1) := by decide +kernel
theorem d_X2_needWith_15 : decode cX2_needWith 15 = .ok (.iload_n 1, 1) := by decide +kernel
theorem d_X2_needWith_16 : decode cX2_needWith 16 = .ok (.sipush 4096, 3) := by decide +kernel
theorem d_X2_needWith_19 : decode cX2_needWith 19 = .ok (.irem, 1) := by decide +kernel
theorem d_X2_needWith_20 : decode cX2_needWith 20 = .ok (.istore 4, 2) := by decide +kernel
theorem d_X2_needWith_22 : decode cX2_needWith 22 = .ok (.iload_n 3, 1) := by decide +kernel
theorem d_X2_needWith_23 : decode cX2_needWith 23 = .ok (.istore 5, 2) := by decide +kernel
theorem d_X2_needWith_25 : decode cX2_needWith 25 = .ok (.iload 5, 2) := by decide +kernel
theorem d_X2_needWith_27 : decode cX2_needWith 27 = .ok (.aload_n 0, 1) := by decide +kernel
theorem d_X2_needWith_28 : decode cX2_needWith 28 = .ok (.getfield 38, 3) := by decide +kernel
theorem d_X2_needWith_31 : decode cX2_needWith 31 = .ok (.if_icmp .ge 38, 3) := by decide +kernel
theorem d_X2_needWith_34 : decode cX2_needWith 34 = .ok (.iload 4, 2) := by decide +kernel
theorem d_X2_needWith_36 : decode cX2_needWith 36 = .ok (.iload_n 2, 1) := by decide +kernel
theorem d_X2_needWith_37 : decode cX2_needWith 37 = .ok (.iadd, 1) := by decide +kernel
theorem d_X2_needWith_38 : decode cX2_needWith 38 = .ok (.aload_n 0, 1) := by decide +kernel
theorem d_X2_needWith_39 : decode cX2_needWith 39 = .ok (.getfield 15, 3) := by decide +kernel
theorem d_X2_needWith_42 : decode cX2_needWith 42 = .ok (.iload 5, 2) := by decide +kernel
theorem d_X2_needWith_44 : decode cX2_needWith 44 = .ok (.iaload, 1) := by decide +kernel
theorem d_X2_needWith_45 : decode cX2_needWith 45 = .ok (.if_icmp .gt 15, 3) := by decide +kernel
theorem d_X2_needWith_48 : decode cX2_needWith 48 = .ok (.iload 5, 2) := by decide +kernel
theorem d_X2_needWith_50 : decode cX2_needWith 50 = .ok (.sipush 4096, 3) := by decide +kernel
theorem d_X2_needWith_53 : decode cX2_needWith 53 = .ok (.imul, 1) := by decide +kernel
theorem d_X2_needWith_54 : decode cX2_needWith 54 = .ok (.iload 4, 2) := by decide +kernel
theorem d_X2_needWith_56 : decode cX2_needWith 56 = .ok (.iadd, 1) := by decide +kernel
theorem d_X2_needWith_57 : decode cX2_needWith 57 = .ok (.iload_n 2, 1) := by decide +kernel
theorem d_X2_needWith_58 : decode cX2_needWith 58 = .ok (.iadd, 1) := by decide +kernel
theorem d_X2_needWith_59 : decode cX2_needWith 59 = .ok (.ireturn, 1) := by decide +kernel
theorem d_X2_needWith_60 : decode cX2_needWith 60 = .ok (.iconst 0, 1) := by decide +kernel
theorem d_X2_needWith_61 : decode cX2_needWith 61 = .ok (.istore 4, 2) := by decide +kernel
theorem d_X2_needWith_63 : decode cX2_needWith 63 = .ok (.iinc 5 1, 3) := by decide +kernel
theorem d_X2_needWith_66 : decode cX2_needWith 66 = .ok (.goto (-41), 3) := by decide +kernel
theorem d_X2_needWith_69 : decode cX2_needWith 69 = .ok (.ldc 41, 2) := by decide +kernel
theorem d_X2_needWith_71 : decode cX2_needWith 71 = .ok (.ireturn, 1) := by decide +kernel
set_option maxRecDepth 100000 in
theorem L_X2_needWith {p : Program} {l : Launch} {e : Env} {s : State} {m : MethodId} {args : Array Value} {below : List Frame} {meth : Method} {c : Code} {D : va_G} {ca : Nat → ClassId} {ad sx sy : Nat → Nat} {A : Nat → Prop} {Q : QT} (C0 : CX p s m args meth c cX2_needWith 6 yX2_needWith.cls D ca ad A) (hE : EX sx sy A s s.heap) (hr : meth.sig.returnType = (some .int)) (hno : ∀ x ∈ c.exceptionTable.toList, False) : R_X2_needWith (JW p l e { frames := 10, cells := 0, slots := 6 * 0, locals := 200 } s m args below meth c 6 D ca ad A (vx_MQ below (Qn D ca ad A Q) (Qx D ca ad A Q) args s 0 (6 * 0) A) gz gz true) Q := ⟨s_iln C0 (d_X2_needWith_0) hgz (s_ldc C0 (n := 1000000) wg1030 (d_X2_needWith_1) hgz (s_cne C0 (d_X2_needWith_3) (by decide) hgz hgz (fun _ _ _ h => h) (s_ldc C0 (n := 1000000) wg1030 (d_X2_needWith_6) hgz (s_ri C0 hr (d_X2_needWith_8) ⟨by decide, by decide⟩) (okn rfl))) (okn rfl)),
  s_iln C0 (d_X2_needWith_9) hgz (s_si C0 (d_X2_needWith_10) hgz (s_div C0 (d_X2_needWith_13) hgz (s_isn C0 (d_X2_needWith_14) hgz (s_iln C0 (d_X2_needWith_15) hgz (s_si C0 (d_X2_needWith_16) hgz (s_rem C0 (d_X2_needWith_19) hgz (s_is C0 (d_X2_needWith_20) hgz (s_iln C0 (d_X2_needWith_22) hgz (s_is C0 (d_X2_needWith_23) hgz (fun _ _ _ h => h))))) (okn rfl) rfl)))) (okn rfl) rfl),
  s_il C0 (d_X2_needWith_25) hgz (s_aln C0 (d_X2_needWith_27) hgz (s_gi C0 (j := 2) (c0 := 2) rfl gX2 (by decide) rfl (by decide) wg297 (d_X2_needWith_28) hgz (s_cge C0 (d_X2_needWith_31) (by decide) hgz hgz (fun _ _ _ h => h) (s_il C0 (d_X2_needWith_34) hgz (s_iln C0 (d_X2_needWith_36) hgz (s_add C0 (d_X2_needWith_37) hgz (s_aln C0 (d_X2_needWith_38) hgz (s_gr C0 (j := 3) (c0 := 2) rfl gX2 (by decide) rfl rfl wg298 (d_X2_needWith_39) hgz (s_il C0 (d_X2_needWith_42) hgz (s_ia C0 (d_X2_needWith_44) hgz (s_cgt C0 (d_X2_needWith_45) (by decide) hgz hgz (fun _ _ _ h => h) (s_il C0 (d_X2_needWith_48) hgz (s_si C0 (d_X2_needWith_50) hgz (s_mul C0 (d_X2_needWith_53) hgz (s_il C0 (d_X2_needWith_54) hgz (s_add C0 (d_X2_needWith_56) hgz (s_iln C0 (d_X2_needWith_57) hgz (s_add C0 (d_X2_needWith_58) hgz (s_ri C0 hr (d_X2_needWith_59) ⟨by decide, by decide⟩)))))) (okn rfl) rfl))))))))))))),
  s_ic C0 (d_X2_needWith_60) hgz (s_is C0 (d_X2_needWith_61) hgz (s_inc C0 (d_X2_needWith_63) hgz (s_goto C0 (tgt := 25) (d_X2_needWith_66) (by decide) hgz (fun _ _ _ h => h)))) (okn rfl),
  s_ldc C0 (n := 1000000) wg1030 (d_X2_needWith_69) hgz (s_ri C0 hr (d_X2_needWith_71) ⟨by decide, by decide⟩) (okn rfl)⟩
theorem c_X2_needWith (l : Launch) : Ctr l yX2_needWith cX2_needWith 6 (some .int) 10 200 0 (fun sx => (nf G_X2_needWith)) := ctr_of (by decide) gz gz ⟨rfl, rfl⟩ (fun p e s m args below meth c D ca ad sx sy A Q as M C0 hE hr hno hF => P_X2_needWith (L_X2_needWith C0 hE hr hno) hF)
theorem wg1040 : Cond.methodLink "WeighedHall$Carrying" 85 ⟨"java/lang/Math", "min", "(II)I"⟩ ∈ GT := gt_mem 1160 (by decide +kernel) rfl
theorem wg1039 : Cond.code ⟨"WeighedHall$Carrying", "needWith", "(II)I"⟩ prog_4_method_6_code 6 (Option.some .int) ∈ GT := gt_mem 1159 (by decide +kernel) rfl
theorem wg8 : Cond.initialized "WeighedHall$Carrying" ∈ GT := gt_mem 128 (by decide +kernel) rfl
theorem wg1036 : Cond.methodLink "WeighedHall$Carrying" 82 ⟨"WeighedHall$Carrying", "needWith", "(II)I"⟩ ∈ GT := gt_mem 1156 (by decide +kernel) rfl
theorem wg1038 : Cond.instanceMethod ⟨"WeighedHall$Carrying", "needWith", "(II)I"⟩ ∈ GT := gt_mem 1158 (by decide +kernel) rfl
theorem ws65 : Cond.selects "WeighedHall$Carrying" ⟨"WeighedHall$Carrying", "needWith", "(II)I"⟩ ⟨"WeighedHall$Carrying", "needWith", "(II)I"⟩ ∈ GT := gt_mem 65 (by decide +kernel) rfl
theorem wg300 : Cond.fieldLink "WeighedHall$Carrying" 21 "WeighedHall$Carrying" "need" "[I" ∈ GT := gt_mem 420 (by decide +kernel) rfl
theorem d_X2_needOf_0 : decode cX2_needOf 0 = .ok (.ldc 41, 2) := by decide +kernel
theorem d_X2_needOf_2 : decode cX2_needOf 2 = .ok (.istore_n 2, 1) := by decide +kernel
theorem d_X2_needOf_3 : decode cX2_needOf 3 = .ok (.iconst 0, 1) := by decide +kernel
theorem d_X2_needOf_4 : decode cX2_needOf 4 = .ok (.istore_n 3, 1) := by decide +kernel
theorem d_X2_needOf_5 : decode cX2_needOf 5 = .ok (.iload_n 3, 1) := by decide +kernel
theorem d_X2_needOf_6 : decode cX2_needOf 6 = .ok (.aload_n 0, 1) := by decide +kernel
theorem d_X2_needOf_7 : decode cX2_needOf 7 = .ok (.getfield 42, 3) := by decide +kernel
theorem d_X2_needOf_10 : decode cX2_needOf 10 = .ok (.if_icmp .ge 42, 3) := by decide +kernel
theorem d_X2_needOf_13 : decode cX2_needOf 13 = .ok (.iload_n 3, 1) := by decide +kernel
theorem d_X2_needOf_14 : decode cX2_needOf 14 = .ok (.iload_n 1, 1) := by decide +kernel
theorem d_X2_needOf_15 : decode cX2_needOf 15 = .ok (.invokestatic 64, 3) := by decide +kernel
theorem d_X2_needOf_18 : decode cX2_needOf 18 = .ok (.ifCond .eq 28, 3) := by decide +kernel
theorem d_X2_needOf_21 : decode cX2_needOf 21 = .ok (.iload_n 2, 1) := by decide +kernel
theorem d_X2_needOf_22 : decode cX2_needOf 22 = .ok (.aload_n 0, 1) := by decide +kernel
theorem d_X2_needOf_23 : decode cX2_needOf 23 = .ok (.aload_n 0, 1) := by decide +kernel
theorem d_X2_needOf_24 : decode cX2_needOf 24 = .ok (.getfield 21, 3) := by decide +kernel
theorem d_X2_needOf_27 : decode cX2_needOf 27 = .ok (.iload_n 1, 1) := by decide +kernel
theorem d_X2_needOf_28 : decode cX2_needOf 28 = .ok (.iconst 1, 1) := by decide +kernel
theorem d_X2_needOf_29 : decode cX2_needOf 29 = .ok (.iload_n 3, 1) := by decide +kernel
theorem d_X2_needOf_30 : decode cX2_needOf 30 = .ok (.ishl, 1) := by decide +kernel
theorem d_X2_needOf_31 : decode cX2_needOf 31 = .ok (.ixor, 1) := by decide +kernel
theorem d_X2_needOf_32 : decode cX2_needOf 32 = .ok (.iaload, 1) := by decide +kernel
theorem d_X2_needOf_33 : decode cX2_needOf 33 = .ok (.aload_n 0, 1) := by decide +kernel
theorem d_X2_needOf_34 : decode cX2_needOf 34 = .ok (.getfield 11, 3) := by decide +kernel
theorem d_X2_needOf_37 : decode cX2_needOf 37 = .ok (.iload_n 3, 1) := by decide +kernel
theorem d_X2_needOf_38 : decode cX2_needOf 38 = .ok (.iaload, 1) := by decide +kernel
theorem d_X2_needOf_39 : decode cX2_needOf 39 = .ok (.invokevirtual 82, 3) := by decide +kernel
theorem d_X2_needOf_42 : decode cX2_needOf 42 = .ok (.invokestatic 85, 3) := by decide +kernel
theorem d_X2_needOf_45 : decode cX2_needOf 45 = .ok (.istore_n 2, 1) := by decide +kernel
theorem d_X2_needOf_46 : decode cX2_needOf 46 = .ok (.iinc 3 1, 3) := by decide +kernel
theorem d_X2_needOf_49 : decode cX2_needOf 49 = .ok (.goto (-44), 3) := by decide +kernel
theorem d_X2_needOf_52 : decode cX2_needOf 52 = .ok (.iload_n 2, 1) := by decide +kernel
theorem d_X2_needOf_53 : decode cX2_needOf 53 = .ok (.ireturn, 1) := by decide +kernel
set_option maxRecDepth 100000 in
theorem L_X2_needOf {p : Program} {l : Launch} {e : Env} {s : State} {m : MethodId} {args : Array Value} {below : List Frame} {meth : Method} {c : Code} {D : va_G} {ca : Nat → ClassId} {ad sx sy : Nat → Nat} {A : Nat → Prop} {Q : QT} (C0 : CX p s m args meth c cX2_needOf 4 yX2_needOf.cls D ca ad A) (hE : EX sx sy A s s.heap) (hr : meth.sig.returnType = (some .int)) (hno : ∀ x ∈ c.exceptionTable.toList, False) : R_X2_needOf (JW p l e { frames := 11, cells := 0, slots := 6 * 0, locals := 225 } s m args below meth c 4 D ca ad A (vx_MQ below (Qn D ca ad A Q) (Qx D ca ad A Q) args s 0 (6 * 0) A) gz gz true) Q := ⟨s_ldc C0 (n := 1000000) wg1030 (d_X2_needOf_0) hgz (s_isn C0 (d_X2_needOf_2) hgz (s_ic C0 (d_X2_needOf_3) hgz (s_isn C0 (d_X2_needOf_4) hgz (fun _ _ _ h => h)) (okn rfl))) (okn rfl),
  s_iln C0 (d_X2_needOf_5) hgz (s_aln C0 (d_X2_needOf_6) hgz (s_gi C0 (j := 0) (c0 := 2) rfl gX2 (by decide) rfl (by decide) wg295 (d_X2_needOf_7) hgz (s_cge C0 (d_X2_needOf_10) (by decide) hgz hgz (fun _ _ _ h => h) (s_iln C0 (d_X2_needOf_13) hgz (s_iln C0 (d_X2_needOf_14) hgz (s_callSN C0 hE (c_X10_isIn l) wg491 wn1024 wg490 wg1 ⟨by decide, by decide⟩ (by decide +kernel) ⟨by decide, by decide⟩ ⟨by decide, by decide⟩ (d_X2_needOf_15) (fun x hx => (hno x hx).elim) ⟨by decide, by decide⟩ ⟨by decide, by decide⟩ (s_zeq C0 (d_X2_needOf_18) (by decide) hgz hgz (fun _ _ _ h => h) (s_iln C0 (d_X2_needOf_21) hgz (s_aln C0 (d_X2_needOf_22) hgz (s_aln C0 (d_X2_needOf_23) hgz (s_gr C0 (j := 5) (c0 := 2) rfl gX2 (by decide) rfl rfl wg300 (d_X2_needOf_24) hgz (s_iln C0 (d_X2_needOf_27) hgz (s_ic C0 (d_X2_needOf_28) hgz (s_iln C0 (d_X2_needOf_29) hgz (s_shl C0 (d_X2_needOf_30) hgz (s_xor C0 (d_X2_needOf_31) hgz (s_ia C0 (d_X2_needOf_32) hgz (s_aln C0 (d_X2_needOf_33) hgz (s_gr C0 (j := 1) (c0 := 2) rfl gX2 (by decide) rfl rfl wg296 (d_X2_needOf_34) hgz (s_iln C0 (d_X2_needOf_37) hgz (s_ia C0 (d_X2_needOf_38) hgz (s_callV C0 hE (c_X2_needWith l) wg1039 wg1036 wg1038 ws65 wg8 ⟨by decide, by decide⟩ (by decide +kernel) (c0 := 2) rfl ⟨by decide, by decide⟩ ⟨by decide, by decide⟩ (d_X2_needOf_39) (fun x hx => (hno x hx).elim) ⟨by decide, by decide⟩ ⟨by decide, by decide⟩ (s_callS C0 hE (c_J9_min_7cf53 l) wg636 wg1040 wg635 wg17 ⟨by decide, by decide⟩ (by decide +kernel) ⟨by decide, by decide⟩ ⟨by decide, by decide⟩ (d_X2_needOf_42) (fun x hx => (hno x hx).elim) ⟨by decide, by decide⟩ ⟨by decide, by decide⟩ (s_isn C0 (d_X2_needOf_45) hgz (fun _ _ _ h => h)))))))))))) (okn rfl)))))))))))))),
  s_inc C0 (d_X2_needOf_46) hgz (s_goto C0 (tgt := 5) (d_X2_needOf_49) (by decide) hgz (fun _ _ _ h => h)),
  s_iln C0 (d_X2_needOf_52) hgz (s_ri C0 hr (d_X2_needOf_53) ⟨by decide, by decide⟩)⟩
theorem c_X2_needOf (l : Launch) : Ctr l yX2_needOf cX2_needOf 4 (some .int) 11 225 0 (fun sx => (nf G_X2_needOf)) := ctr_of (by decide) gz gz ⟨rfl, rfl⟩ (fun p e s m args below meth c D ca ad sx sy A Q as M C0 hE hr hno hF => P_X2_needOf (L_X2_needOf C0 hE hr hno) hF)
theorem wg299 : Cond.fieldLink "WeighedHall$Carrying" 18 "WeighedHall$Carrying" "pounds" "[I" ∈ GT := gt_mem 419 (by decide +kernel) rfl
theorem wg303 : Cond.fieldLink "WeighedHall$Carrying" 35 "WeighedHall$Carrying" "leastSet" "I" ∈ GT := gt_mem 423 (by decide +kernel) rfl
theorem wg301 : Cond.fieldLink "WeighedHall$Carrying" 31 "WeighedHall$Carrying" "leastPounds" "I" ∈ GT := gt_mem 421 (by decide +kernel) rfl
theorem wg1028 : Cond.code ⟨"WeighedHall$Carrying", "chooseCarriers", "(LWeighedHall$Plan;I)V"⟩ prog_4_method_4_code 4 (Option.none : Option FieldType) ∈ GT := gt_mem 1148 (by decide +kernel) rfl
theorem wg1025 : Cond.methodLink "WeighedHall$Carrying" 28 ⟨"WeighedHall$Carrying", "chooseCarriers", "(LWeighedHall$Plan;I)V"⟩ ∈ GT := gt_mem 1145 (by decide +kernel) rfl
theorem wg1027 : Cond.instanceMethod ⟨"WeighedHall$Carrying", "chooseCarriers", "(LWeighedHall$Plan;I)V"⟩ ∈ GT := gt_mem 1147 (by decide +kernel) rfl
theorem ws63 : Cond.selects "WeighedHall$Carrying" ⟨"WeighedHall$Carrying", "chooseCarriers", "(LWeighedHall$Plan;I)V"⟩ ⟨"WeighedHall$Carrying", "chooseCarriers", "(LWeighedHall$Plan;I)V"⟩ ∈ GT := gt_mem 63 (by decide +kernel) rfl
theorem wg1023 : Cond.code ⟨"WeighedHall$Carrying", "chooseThings", "(LWeighedHall$Plan;I)V"⟩ prog_4_method_3_code 4 (Option.none : Option FieldType) ∈ GT := gt_mem 1143 (by decide +kernel) rfl
theorem wg1020 : Cond.methodLink "WeighedHall$Carrying" 24 ⟨"WeighedHall$Carrying", "chooseThings", "(LWeighedHall$Plan;I)V"⟩ ∈ GT := gt_mem 1140 (by decide +kernel) rfl
theorem wg1022 : Cond.instanceMethod ⟨"WeighedHall$Carrying", "chooseThings", "(LWeighedHall$Plan;I)V"⟩ ∈ GT := gt_mem 1142 (by decide +kernel) rfl
theorem ws62 : Cond.selects "WeighedHall$Carrying" ⟨"WeighedHall$Carrying", "chooseThings", "(LWeighedHall$Plan;I)V"⟩ ⟨"WeighedHall$Carrying", "chooseThings", "(LWeighedHall$Plan;I)V"⟩ ∈ GT := gt_mem 62 (by decide +kernel) rfl
theorem wg1035 : Cond.code ⟨"WeighedHall$Carrying", "needOf", "(I)I"⟩ prog_4_method_5_code 4 (Option.some .int) ∈ GT := gt_mem 1155 (by decide +kernel) rfl
theorem wg1032 : Cond.methodLink "WeighedHall$Carrying" 49 ⟨"WeighedHall$Carrying", "needOf", "(I)I"⟩ ∈ GT := gt_mem 1152 (by decide +kernel) rfl
theorem wg1034 : Cond.instanceMethod ⟨"WeighedHall$Carrying", "needOf", "(I)I"⟩ ∈ GT := gt_mem 1154 (by decide +kernel) rfl
theorem ws64 : Cond.selects "WeighedHall$Carrying" ⟨"WeighedHall$Carrying", "needOf", "(I)I"⟩ ⟨"WeighedHall$Carrying", "needOf", "(I)I"⟩ ∈ GT := gt_mem 64 (by decide +kernel) rfl
theorem wn1031 : Cond.methodLinkNest "WeighedHall$Carrying" 45 ⟨"WeighedHall", "lowestOf", "(I)I"⟩ "WeighedHall" ∈ NT := nt_mem 1031 (by decide +kernel) rfl
theorem d_X2_find_0 : decode cX2_find 0 = .ok (.aload_n 0, 1) := by decide +kernel
theorem d_X2_find_1 : decode cX2_find 1 = .ok (.aload_n 1, 1) := by decide +kernel
theorem d_X2_find_2 : decode cX2_find 2 = .ok (.iload_n 2, 1) := by decide +kernel
theorem d_X2_find_3 : decode cX2_find 3 = .ok (.invokevirtual 24, 3) := by decide +kernel
theorem d_X2_find_6 : decode cX2_find 6 = .ok (.aload_n 0, 1) := by decide +kernel
theorem d_X2_find_7 : decode cX2_find 7 = .ok (.aload_n 1, 1) := by decide +kernel
theorem d_X2_find_8 : decode cX2_find 8 = .ok (.iload_n 2, 1) := by decide +kernel
theorem d_X2_find_9 : decode cX2_find 9 = .ok (.invokevirtual 28, 3) := by decide +kernel
theorem d_X2_find_12 : decode cX2_find 12 = .ok (.aload_n 0, 1) := by decide +kernel
theorem d_X2_find_13 : decode cX2_find 13 = .ok (.iconst (-1), 1) := by decide +kernel
theorem d_X2_find_14 : decode cX2_find 14 = .ok (.putfield 31, 3) := by decide +kernel
theorem d_X2_find_17 : decode cX2_find 17 = .ok (.aload_n 0, 1) := by decide +kernel
theorem d_X2_find_18 : decode cX2_find 18 = .ok (.iconst (-1), 1) := by decide +kernel
theorem d_X2_find_19 : decode cX2_find 19 = .ok (.putfield 35, 3) := by decide +kernel
theorem d_X2_find_22 : decode cX2_find 22 = .ok (.aload_n 0, 1) := by decide +kernel
theorem d_X2_find_23 : decode cX2_find 23 = .ok (.getfield 18, 3) := by decide +kernel
theorem d_X2_find_26 : decode cX2_find 26 = .ok (.iconst 0, 1) := by decide +kernel
theorem d_X2_find_27 : decode cX2_find 27 = .ok (.iconst 0, 1) := by decide +kernel
theorem d_X2_find_28 : decode cX2_find 28 = .ok (.iastore, 1) := by decide +kernel
theorem d_X2_find_29 : decode cX2_find 29 = .ok (.aload_n 0, 1) := by decide +kernel
theorem d_X2_find_30 : decode cX2_find 30 = .ok (.getfield 21, 3) := by decide +kernel
theorem d_X2_find_33 : decode cX2_find 33 = .ok (.iconst 0, 1) := by decide +kernel
theorem d_X2_find_34 : decode cX2_find 34 = .ok (.aload_n 0, 1) := by decide +kernel
theorem d_X2_find_35 : decode cX2_find 35 = .ok (.getfield 38, 3) := by decide +kernel
theorem d_X2_find_38 : decode cX2_find 38 = .ok (.ifCond .le 7, 3) := by decide +kernel
theorem d_X2_find_41 : decode cX2_find 41 = .ok (.iconst 0, 1) := by decide +kernel
theorem d_X2_find_42 : decode cX2_find 42 = .ok (.goto 5, 3) := by decide +kernel
theorem d_X2_find_45 : decode cX2_find 45 = .ok (.ldc 41, 2) := by decide +kernel
theorem d_X2_find_47 : decode cX2_find 47 = .ok (.iastore, 1) := by decide +kernel
theorem d_X2_find_48 : decode cX2_find 48 = .ok (.iconst 1, 1) := by decide +kernel
theorem d_X2_find_49 : decode cX2_find 49 = .ok (.istore 4, 2) := by decide +kernel
theorem d_X2_find_51 : decode cX2_find 51 = .ok (.iload 4, 2) := by decide +kernel
theorem d_X2_find_53 : decode cX2_find 53 = .ok (.iconst 1, 1) := by decide +kernel
theorem d_X2_find_54 : decode cX2_find 54 = .ok (.aload_n 0, 1) := by decide +kernel
theorem d_X2_find_55 : decode cX2_find 55 = .ok (.getfield 42, 3) := by decide +kernel
theorem d_X2_find_58 : decode cX2_find 58 = .ok (.ishl, 1) := by decide +kernel
theorem d_X2_find_59 : decode cX2_find 59 = .ok (.if_icmp .ge 126, 3) := by decide +kernel
theorem d_X2_find_62 : decode cX2_find 62 = .ok (.aload_n 0, 1) := by decide +kernel
theorem d_X2_find_63 : decode cX2_find 63 = .ok (.getfield 18, 3) := by decide +kernel
theorem d_X2_find_66 : decode cX2_find 66 = .ok (.iload 4, 2) := by decide +kernel
theorem d_X2_find_68 : decode cX2_find 68 = .ok (.aload_n 0, 1) := by decide +kernel
theorem d_X2_find_69 : decode cX2_find 69 = .ok (.getfield 18, 3) := by decide +kernel
theorem d_X2_find_72 : decode cX2_find 72 = .ok (.iload 4, 2) := by decide +kernel
theorem d_X2_find_74 : decode cX2_find 74 = .ok (.iload 4, 2) := by decide +kernel
theorem d_X2_find_76 : decode cX2_find 76 = .ok (.iconst 1, 1) := by decide +kernel
theorem d_X2_find_77 : decode cX2_find 77 = .ok (.isub, 1) := by decide +kernel
theorem d_X2_find_78 : decode cX2_find 78 = .ok (.iand, 1) := by decide +kernel
theorem d_X2_find_79 : decode cX2_find 79 = .ok (.iaload, 1) := by decide +kernel
theorem d_X2_find_80 : decode cX2_find 80 = .ok (.aload_n 0, 1) := by decide +kernel
theorem d_X2_find_81 : decode cX2_find 81 = .ok (.getfield 11, 3) := by decide +kernel
theorem d_X2_find_84 : decode cX2_find 84 = .ok (.iload 4, 2) := by decide +kernel
theorem d_X2_find_86 : decode cX2_find 86 = .ok (.invokestatic 45, 3) := by decide +kernel
theorem d_X2_find_89 : decode cX2_find 89 = .ok (.iaload, 1) := by decide +kernel
theorem d_X2_find_90 : decode cX2_find 90 = .ok (.iadd, 1) := by decide +kernel
theorem d_X2_find_91 : decode cX2_find 91 = .ok (.iastore, 1) := by decide +kernel
theorem d_X2_find_92 : decode cX2_find 92 = .ok (.aload_n 0, 1) := by decide +kernel
theorem d_X2_find_93 : decode cX2_find 93 = .ok (.getfield 21, 3) := by decide +kernel
theorem d_X2_find_96 : decode cX2_find 96 = .ok (.iload 4, 2) := by decide +kernel
theorem d_X2_find_98 : decode cX2_find 98 = .ok (.aload_n 0, 1) := by decide +kernel
theorem d_X2_find_99 : decode cX2_find 99 = .ok (.iload 4, 2) := by decide +kernel
theorem d_X2_find_101 : decode cX2_find 101 = .ok (.invokevirtual 49, 3) := by decide +kernel
theorem d_X2_find_104 : decode cX2_find 104 = .ok (.iastore, 1) := by decide +kernel
theorem d_X2_find_105 : decode cX2_find 105 = .ok (.aload_n 0, 1) := by decide +kernel
theorem d_X2_find_106 : decode cX2_find 106 = .ok (.getfield 21, 3) := by decide +kernel
theorem d_X2_find_109 : decode cX2_find 109 = .ok (.iload 4, 2) := by decide +kernel
theorem d_X2_find_111 : decode cX2_find 111 = .ok (.iaload, 1) := by decide +kernel
theorem d_X2_find_112 : decode cX2_find 112 = .ok (.ldc 41, 2) := by decide +kernel
theorem d_X2_find_114 : decode cX2_find 114 = .ok (.if_icmp .eq 18, 3) := by decide +kernel
theorem d_X2_find_117 : decode cX2_find 117 = .ok (.aload_n 0, 1) := by decide +kernel
theorem d_X2_find_118 : decode cX2_find 118 = .ok (.getfield 18, 3) := by decide +kernel
theorem d_X2_find_121 : decode cX2_find 121 = .ok (.iload 4, 2) := by decide +kernel
theorem d_X2_find_123 : decode cX2_find 123 = .ok (.iaload, 1) := by decide +kernel
theorem d_X2_find_124 : decode cX2_find 124 = .ok (.iload_n 3, 1) := by decide +kernel
theorem d_X2_find_125 : decode cX2_find 125 = .ok (.if_icmp .le 7, 3) := by decide +kernel
theorem d_X2_find_128 : decode cX2_find 128 = .ok (.iconst 1, 1) := by decide +kernel
theorem d_X2_find_129 : decode cX2_find 129 = .ok (.goto 4, 3) := by decide +kernel
theorem d_X2_find_132 : decode cX2_find 132 = .ok (.iconst 0, 1) := by decide +kernel
theorem d_X2_find_133 : decode cX2_find 133 = .ok (.istore 5, 2) := by decide +kernel
theorem d_X2_find_135 : decode cX2_find 135 = .ok (.iload 5, 2) := by decide +kernel
theorem d_X2_find_137 : decode cX2_find 137 = .ok (.ifCond .eq 42, 3) := by decide +kernel
theorem d_X2_find_140 : decode cX2_find 140 = .ok (.aload_n 0, 1) := by decide +kernel
theorem d_X2_find_141 : decode cX2_find 141 = .ok (.getfield 31, 3) := by decide +kernel
theorem d_X2_find_144 : decode cX2_find 144 = .ok (.iconst (-1), 1) := by decide +kernel
theorem d_X2_find_145 : decode cX2_find 145 = .ok (.if_icmp .eq 17, 3) := by decide +kernel
theorem d_X2_find_148 : decode cX2_find 148 = .ok (.aload_n 0, 1) := by decide +kernel
theorem d_X2_find_149 : decode cX2_find 149 = .ok (.getfield 18, 3) := by decide +kernel
theorem d_X2_find_152 : decode cX2_find 152 = .ok (.iload 4, 2) := by decide +kernel
theorem d_X2_find_154 : decode cX2_find 154 = .ok (.iaload, 1) := by decide +kernel
theorem d_X2_find_155 : decode cX2_find 155 = .ok (.aload_n 0, 1) := by decide +kernel
theorem d_X2_find_156 : decode cX2_find 156 = .ok (.getfield 31, 3) := by decide +kernel
theorem d_X2_find_159 : decode cX2_find 159 = .ok (.if_icmp .ge 20, 3) := by decide +kernel
theorem d_X2_find_162 : decode cX2_find 162 = .ok (.aload_n 0, 1) := by decide +kernel
theorem d_X2_find_163 : decode cX2_find 163 = .ok (.aload_n 0, 1) := by decide +kernel
theorem d_X2_find_164 : decode cX2_find 164 = .ok (.getfield 18, 3) := by decide +kernel
theorem d_X2_find_167 : decode cX2_find 167 = .ok (.iload 4, 2) := by decide +kernel
theorem d_X2_find_169 : decode cX2_find 169 = .ok (.iaload, 1) := by decide +kernel
theorem d_X2_find_170 : decode cX2_find 170 = .ok (.putfield 31, 3) := by decide +kernel
theorem d_X2_find_173 : decode cX2_find 173 = .ok (.aload_n 0, 1) := by decide +kernel
theorem d_X2_find_174 : decode cX2_find 174 = .ok (.iload 4, 2) := by decide +kernel
theorem d_X2_find_176 : decode cX2_find 176 = .ok (.putfield 35, 3) := by decide +kernel
theorem d_X2_find_179 : decode cX2_find 179 = .ok (.iinc 4 1, 3) := by decide +kernel
theorem d_X2_find_182 : decode cX2_find 182 = .ok (.goto (-131), 3) := by decide +kernel
theorem d_X2_find_185 : decode cX2_find 185 = .ok (.return_, 1) := by decide +kernel
set_option maxRecDepth 100000 in
theorem L_X2_find {p : Program} {l : Launch} {e : Env} {s : State} {m : MethodId} {args : Array Value} {below : List Frame} {meth : Method} {c : Code} {D : va_G} {ca : Nat → ClassId} {ad sx sy : Nat → Nat} {A : Nat → Prop} {Q : QT} (C0 : CX p s m args meth c cX2_find 6 yX2_find.cls D ca ad A) (hE : EX sx sy A s s.heap) (hr : meth.sig.returnType = none) (hno : ∀ x ∈ c.exceptionTable.toList, False) : R_X2_find (JW p l e { frames := 12, cells := 0, slots := 6 * 0, locals := 248 } s m args below meth c 6 D ca ad A (vx_MQ below (Qn D ca ad A Q) (Qx D ca ad A Q) args s 0 (6 * 0) A) gz gz true) Q := ⟨s_aln C0 (d_X2_find_0) hgz (s_aln C0 (d_X2_find_1) hgz (s_iln C0 (d_X2_find_2) hgz (s_callV C0 hE (c_X2_chooseThings l) wg1023 wg1020 wg1022 ws62 wg8 ⟨by decide, by decide⟩ (by decide +kernel) (c0 := 2) rfl ⟨by decide, by decide⟩ ⟨by decide, by decide⟩ (d_X2_find_3) (fun x hx => (hno x hx).elim) ⟨by decide, by decide⟩ ⟨by decide, by decide⟩ (s_aln C0 (d_X2_find_6) hgz (s_aln C0 (d_X2_find_7) hgz (s_iln C0 (d_X2_find_8) hgz (s_callV C0 hE (c_X2_chooseCarriers l) wg1028 wg1025 wg1027 ws63 wg8 ⟨by decide, by decide⟩ (by decide +kernel) (c0 := 2) rfl ⟨by decide, by decide⟩ ⟨by decide, by decide⟩ (d_X2_find_9) (fun x hx => (hno x hx).elim) ⟨by decide, by decide⟩ ⟨by decide, by decide⟩ (s_aln C0 (d_X2_find_12) hgz (s_ic C0 (d_X2_find_13) hgz (s_pi C0 (j := 6) (c0 := 2) rfl gX2 tyX2_ok nmX2 (by decide) rfl (by decide) rfl rfl wg301 (d_X2_find_14) hgz (s_aln C0 (d_X2_find_17) hgz (s_ic C0 (d_X2_find_18) hgz (s_pi C0 (j := 7) (c0 := 2) rfl gX2 tyX2_ok nmX2 (by decide) rfl (by decide) rfl rfl wg303 (d_X2_find_19) hgz (s_aln C0 (d_X2_find_22) hgz (s_gr C0 (j := 4) (c0 := 2) rfl gX2 (by decide) rfl rfl wg299 (d_X2_find_23) hgz (s_ic C0 (d_X2_find_26) hgz (s_ic C0 (d_X2_find_27) hgz (s_iax C0 (d_X2_find_28) hgz (s_aln C0 (d_X2_find_29) hgz (s_gr C0 (j := 5) (c0 := 2) rfl gX2 (by decide) rfl rfl wg300 (d_X2_find_30) hgz (s_ic C0 (d_X2_find_33) hgz (s_aln C0 (d_X2_find_34) hgz (s_gi C0 (j := 2) (c0 := 2) rfl gX2 (by decide) rfl (by decide) wg297 (d_X2_find_35) hgz (s_zle C0 (d_X2_find_38) (by decide) hgz hgz (fun _ _ _ h => h) (s_ic C0 (d_X2_find_41) hgz (s_goto C0 (tgt := 47) (d_X2_find_42) (by decide) hgz (fun _ _ _ h => h)) (okn rfl))))) (okn rfl))))) (okn rfl)) (okn rfl))))) (okn rfl)))) (okn rfl)))))))))),
  s_ldc C0 (n := 1000000) wg1030 (d_X2_find_45) hgz (fun _ _ _ h => h) (okn rfl),
  s_iax C0 (d_X2_find_47) hgz (s_ic C0 (d_X2_find_48) hgz (s_is C0 (d_X2_find_49) hgz (fun _ _ _ h => h)) (okn rfl)),
  s_il C0 (d_X2_find_51) hgz (s_ic C0 (d_X2_find_53) hgz (s_aln C0 (d_X2_find_54) hgz (s_gi C0 (j := 0) (c0 := 2) rfl gX2 (by decide) rfl (by decide) wg295 (d_X2_find_55) hgz (s_shl C0 (d_X2_find_58) hgz (s_cge C0 (d_X2_find_59) (by decide) hgz hgz (fun _ _ _ h => h) (s_aln C0 (d_X2_find_62) hgz (s_gr C0 (j := 4) (c0 := 2) rfl gX2 (by decide) rfl rfl wg299 (d_X2_find_63) hgz (s_il C0 (d_X2_find_66) hgz (s_aln C0 (d_X2_find_68) hgz (s_gr C0 (j := 4) (c0 := 2) rfl gX2 (by decide) rfl rfl wg299 (d_X2_find_69) hgz (s_il C0 (d_X2_find_72) hgz (s_il C0 (d_X2_find_74) hgz (s_ic C0 (d_X2_find_76) hgz (s_sub C0 (d_X2_find_77) hgz (s_and C0 (d_X2_find_78) hgz (s_ia C0 (d_X2_find_79) hgz (s_aln C0 (d_X2_find_80) hgz (s_gr C0 (j := 1) (c0 := 2) rfl gX2 (by decide) rfl rfl wg296 (d_X2_find_81) hgz (s_il C0 (d_X2_find_84) hgz (s_callSN C0 hE (c_X10_lowestOf l) wg478 wn1031 wg477 wg1 ⟨by decide, by decide⟩ (by decide +kernel) ⟨by decide, by decide⟩ ⟨by decide, by decide⟩ (d_X2_find_86) (fun x hx => (hno x hx).elim) ⟨by decide, by decide⟩ ⟨by decide, by decide⟩ (s_ia C0 (d_X2_find_89) hgz (s_add C0 (d_X2_find_90) hgz (s_iax C0 (d_X2_find_91) hgz (s_aln C0 (d_X2_find_92) hgz (s_gr C0 (j := 5) (c0 := 2) rfl gX2 (by decide) rfl rfl wg300 (d_X2_find_93) hgz (s_il C0 (d_X2_find_96) hgz (s_aln C0 (d_X2_find_98) hgz (s_il C0 (d_X2_find_99) hgz (s_callV C0 hE (c_X2_needOf l) wg1035 wg1032 wg1034 ws64 wg8 ⟨by decide, by decide⟩ (by decide +kernel) (c0 := 2) rfl ⟨by decide, by decide⟩ ⟨by decide, by decide⟩ (d_X2_find_101) (fun x hx => (hno x hx).elim) ⟨by decide, by decide⟩ ⟨by decide, by decide⟩ (s_iax C0 (d_X2_find_104) hgz (s_aln C0 (d_X2_find_105) hgz (s_gr C0 (j := 5) (c0 := 2) rfl gX2 (by decide) rfl rfl wg300 (d_X2_find_106) hgz (s_il C0 (d_X2_find_109) hgz (s_ia C0 (d_X2_find_111) hgz (s_ldc C0 (n := 1000000) wg1030 (d_X2_find_112) hgz (s_ceq C0 (d_X2_find_114) (by decide) hgz hgz (fun _ _ _ h => h) (s_aln C0 (d_X2_find_117) hgz (s_gr C0 (j := 4) (c0 := 2) rfl gX2 (by decide) rfl rfl wg299 (d_X2_find_118) hgz (s_il C0 (d_X2_find_121) hgz (s_ia C0 (d_X2_find_123) hgz (s_iln C0 (d_X2_find_124) hgz (s_cle C0 (d_X2_find_125) (by decide) hgz hgz (fun _ _ _ h => h) (s_ic C0 (d_X2_find_128) hgz (s_goto C0 (tgt := 133) (d_X2_find_129) (by decide) hgz (fun _ _ _ h => h)) (okn rfl))))))))) (okn rfl))))))))))))))))))))))) (okn rfl))))))))))))) (okn rfl)),
  s_ic C0 (d_X2_find_132) hgz (fun _ _ _ h => h) (okn rfl),
  s_is C0 (d_X2_find_133) hgz (s_il C0 (d_X2_find_135) hgz (s_zeq C0 (d_X2_find_137) (by decide) hgz hgz (fun _ _ _ h => h) (s_aln C0 (d_X2_find_140) hgz (s_gi C0 (j := 6) (c0 := 2) rfl gX2 (by decide) rfl (by decide) wg301 (d_X2_find_141) hgz (s_ic C0 (d_X2_find_144) hgz (s_ceq C0 (d_X2_find_145) (by decide) hgz hgz (fun _ _ _ h => h) (s_aln C0 (d_X2_find_148) hgz (s_gr C0 (j := 4) (c0 := 2) rfl gX2 (by decide) rfl rfl wg299 (d_X2_find_149) hgz (s_il C0 (d_X2_find_152) hgz (s_ia C0 (d_X2_find_154) hgz (s_aln C0 (d_X2_find_155) hgz (s_gi C0 (j := 6) (c0 := 2) rfl gX2 (by decide) rfl (by decide) wg301 (d_X2_find_156) hgz (s_cge C0 (d_X2_find_159) (by decide) hgz hgz (fun _ _ _ h => h) (fun _ _ _ h => h))))))))) (okn rfl)))))),
  s_aln C0 (d_X2_find_162) hgz (s_aln C0 (d_X2_find_163) hgz (s_gr C0 (j := 4) (c0 := 2) rfl gX2 (by decide) rfl rfl wg299 (d_X2_find_164) hgz (s_il C0 (d_X2_find_167) hgz (s_ia C0 (d_X2_find_169) hgz (s_pi C0 (j := 6) (c0 := 2) rfl gX2 tyX2_ok nmX2 (by decide) rfl (by decide) rfl rfl wg301 (d_X2_find_170) hgz (s_aln C0 (d_X2_find_173) hgz (s_il C0 (d_X2_find_174) hgz (s_pi C0 (j := 7) (c0 := 2) rfl gX2 tyX2_ok nmX2 (by decide) rfl (by decide) rfl rfl wg303 (d_X2_find_176) hgz (fun _ _ _ h => h))))))))),
  s_inc C0 (d_X2_find_179) hgz (s_goto C0 (tgt := 51) (d_X2_find_182) (by decide) hgz (fun _ _ _ h => h)),
  s_rv C0 hr (d_X2_find_185) ⟨by decide, by decide⟩⟩
theorem c_X2_find (l : Launch) : Ctr l yX2_find cX2_find 6 none 12 248 0 (fun sx => (nf G_X2_find)) := ctr_of (by decide) gz gz ⟨rfl, rfl⟩ (fun p e s m args below meth c D ca ad sx sy A Q as M C0 hE hr hno hF => P_X2_find (L_X2_find C0 hE hr hno) hF)
