theorem wg1430 : Cond.code ⟨"WeighedHallModel", "lending", "()V"⟩ prog_13_method_22_code 3 (Option.none : Option FieldType) ∈ GT := gt_mem 1550 (by decide +kernel) rfl
theorem wg1427 : Cond.methodLink "WeighedHallModel" 211 ⟨"WeighedHallModel", "lending", "()V"⟩ ∈ GT := gt_mem 1547 (by decide +kernel) rfl
theorem wg1429 : Cond.instanceMethod ⟨"WeighedHallModel", "lending", "()V"⟩ ∈ GT := gt_mem 1549 (by decide +kernel) rfl
theorem ws96 : Cond.selects "WeighedHallModel" ⟨"WeighedHallModel", "lending", "()V"⟩ ⟨"WeighedHallModel", "lending", "()V"⟩ ∈ GT := gt_mem 96 (by decide +kernel) rfl
theorem d_X11_lend_0 : decode cX11_lend 0 = .ok (.aload_n 0, 1) := by decide +kernel
theorem d_X11_lend_1 : decode cX11_lend 1 = .ok (.iconst 0, 1) := by decide +kernel
theorem d_X11_lend_2 : decode cX11_lend 2 = .ok (.putfield 106, 3) := by decide +kernel
theorem d_X11_lend_5 : decode cX11_lend 5 = .ok (.aload_n 0, 1) := by decide +kernel
theorem d_X11_lend_6 : decode cX11_lend 6 = .ok (.iload_n 1, 1) := by decide +kernel
theorem d_X11_lend_7 : decode cX11_lend 7 = .ok (.iconst 0, 1) := by decide +kernel
theorem d_X11_lend_8 : decode cX11_lend 8 = .ok (.aload_n 0, 1) := by decide +kernel
theorem d_X11_lend_9 : decode cX11_lend 9 = .ok (.getfield 109, 3) := by decide +kernel
theorem d_X11_lend_12 : decode cX11_lend 12 = .ok (.invokestatic 140, 3) := by decide +kernel
theorem d_X11_lend_15 : decode cX11_lend 15 = .ok (.ifCond .eq 10, 3) := by decide +kernel
theorem d_X11_lend_18 : decode cX11_lend 18 = .ok (.iload_n 1, 1) := by decide +kernel
theorem d_X11_lend_19 : decode cX11_lend 19 = .ok (.sipush 300, 3) := by decide +kernel
theorem d_X11_lend_22 : decode cX11_lend 22 = .ok (.if_icmp .le 7, 3) := by decide +kernel
theorem d_X11_lend_25 : decode cX11_lend 25 = .ok (.iconst 1, 1) := by decide +kernel
theorem d_X11_lend_26 : decode cX11_lend 26 = .ok (.goto 4, 3) := by decide +kernel
theorem d_X11_lend_29 : decode cX11_lend 29 = .ok (.iconst 0, 1) := by decide +kernel
theorem d_X11_lend_30 : decode cX11_lend 30 = .ok (.iconst 1, 1) := by decide +kernel
theorem d_X11_lend_31 : decode cX11_lend 31 = .ok (.iconst 1, 1) := by decide +kernel
theorem d_X11_lend_32 : decode cX11_lend 32 = .ok (.invokevirtual 188, 3) := by decide +kernel
theorem d_X11_lend_35 : decode cX11_lend 35 = .ok (.ifCond .eq 5, 3) := by decide +kernel
theorem d_X11_lend_38 : decode cX11_lend 38 = .ok (.iconst 0, 1) := by decide +kernel
theorem d_X11_lend_39 : decode cX11_lend 39 = .ok (.ireturn, 1) := by decide +kernel
theorem d_X11_lend_40 : decode cX11_lend 40 = .ok (.aload_n 0, 1) := by decide +kernel
theorem d_X11_lend_41 : decode cX11_lend 41 = .ok (.iload_n 1, 1) := by decide +kernel
theorem d_X11_lend_42 : decode cX11_lend 42 = .ok (.invokevirtual 192, 3) := by decide +kernel
theorem d_X11_lend_45 : decode cX11_lend 45 = .ok (.aload_n 0, 1) := by decide +kernel
theorem d_X11_lend_46 : decode cX11_lend 46 = .ok (.iconst 0, 1) := by decide +kernel
theorem d_X11_lend_47 : decode cX11_lend 47 = .ok (.putfield 208, 3) := by decide +kernel
theorem d_X11_lend_50 : decode cX11_lend 50 = .ok (.aload_n 0, 1) := by decide +kernel
theorem d_X11_lend_51 : decode cX11_lend 51 = .ok (.getfield 122, 3) := by decide +kernel
theorem d_X11_lend_54 : decode cX11_lend 54 = .ok (.ifCond .ne 25, 3) := by decide +kernel
theorem d_X11_lend_57 : decode cX11_lend 57 = .ok (.aload_n 0, 1) := by decide +kernel
theorem d_X11_lend_58 : decode cX11_lend 58 = .ok (.getfield 115, 3) := by decide +kernel
theorem d_X11_lend_61 : decode cX11_lend 61 = .ok (.aload_n 0, 1) := by decide +kernel
theorem d_X11_lend_62 : decode cX11_lend 62 = .ok (.getfield 112, 3) := by decide +kernel
theorem d_X11_lend_65 : decode cX11_lend 65 = .ok (.if_icmp .ge 14, 3) := by decide +kernel
theorem d_X11_lend_68 : decode cX11_lend 68 = .ok (.aload_n 0, 1) := by decide +kernel
theorem d_X11_lend_69 : decode cX11_lend 69 = .ok (.invokevirtual 211, 3) := by decide +kernel
theorem d_X11_lend_72 : decode cX11_lend 72 = .ok (.aload_n 0, 1) := by decide +kernel
theorem d_X11_lend_73 : decode cX11_lend 73 = .ok (.invokevirtual 128, 3) := by decide +kernel
theorem d_X11_lend_76 : decode cX11_lend 76 = .ok (.goto (-26), 3) := by decide +kernel
theorem d_X11_lend_79 : decode cX11_lend 79 = .ok (.aload_n 0, 1) := by decide +kernel
theorem d_X11_lend_80 : decode cX11_lend 80 = .ok (.aload_n 0, 1) := by decide +kernel
theorem d_X11_lend_81 : decode cX11_lend 81 = .ok (.getfield 125, 3) := by decide +kernel
theorem d_X11_lend_84 : decode cX11_lend 84 = .ok (.putfield 9, 3) := by decide +kernel
theorem d_X11_lend_87 : decode cX11_lend 87 = .ok (.aload_n 0, 1) := by decide +kernel
theorem d_X11_lend_88 : decode cX11_lend 88 = .ok (.getfield 122, 3) := by decide +kernel
theorem d_X11_lend_91 : decode cX11_lend 91 = .ok (.ifCond .eq 11, 3) := by decide +kernel
theorem d_X11_lend_94 : decode cX11_lend 94 = .ok (.aload_n 0, 1) := by decide +kernel
theorem d_X11_lend_95 : decode cX11_lend 95 = .ok (.getfield 122, 3) := by decide +kernel
theorem d_X11_lend_98 : decode cX11_lend 98 = .ok (.bipush 10, 2) := by decide +kernel
theorem d_X11_lend_100 : decode cX11_lend 100 = .ok (.isub, 1) := by decide +kernel
theorem d_X11_lend_101 : decode cX11_lend 101 = .ok (.ireturn, 1) := by decide +kernel
theorem d_X11_lend_102 : decode cX11_lend 102 = .ok (.aload_n 0, 1) := by decide +kernel
theorem d_X11_lend_103 : decode cX11_lend 103 = .ok (.aload_n 0, 1) := by decide +kernel
theorem d_X11_lend_104 : decode cX11_lend 104 = .ok (.getfield 208, 3) := by decide +kernel
theorem d_X11_lend_107 : decode cX11_lend 107 = .ok (.putfield 199, 3) := by decide +kernel
theorem d_X11_lend_110 : decode cX11_lend 110 = .ok (.iconst 0, 1) := by decide +kernel
theorem d_X11_lend_111 : decode cX11_lend 111 = .ok (.istore_n 2, 1) := by decide +kernel
theorem d_X11_lend_112 : decode cX11_lend 112 = .ok (.iload_n 2, 1) := by decide +kernel
theorem d_X11_lend_113 : decode cX11_lend 113 = .ok (.aload_n 0, 1) := by decide +kernel
theorem d_X11_lend_114 : decode cX11_lend 114 = .ok (.getfield 199, 3) := by decide +kernel
theorem d_X11_lend_117 : decode cX11_lend 117 = .ok (.if_icmp .ge 38, 3) := by decide +kernel
theorem d_X11_lend_120 : decode cX11_lend 120 = .ok (.iconst 0, 1) := by decide +kernel
theorem d_X11_lend_121 : decode cX11_lend 121 = .ok (.istore_n 3, 1) := by decide +kernel
theorem d_X11_lend_122 : decode cX11_lend 122 = .ok (.iload_n 3, 1) := by decide +kernel
theorem d_X11_lend_123 : decode cX11_lend 123 = .ok (.iconst 4, 1) := by decide +kernel
theorem d_X11_lend_124 : decode cX11_lend 124 = .ok (.if_icmp .ge 25, 3) := by decide +kernel
theorem d_X11_lend_127 : decode cX11_lend 127 = .ok (.aload_n 0, 1) := by decide +kernel
theorem d_X11_lend_128 : decode cX11_lend 128 = .ok (.getfield 49, 3) := by decide +kernel
theorem d_X11_lend_131 : decode cX11_lend 131 = .ok (.iload_n 2, 1) := by decide +kernel
theorem d_X11_lend_132 : decode cX11_lend 132 = .ok (.aaload, 1) := by decide +kernel
theorem d_X11_lend_133 : decode cX11_lend 133 = .ok (.iload_n 3, 1) := by decide +kernel
theorem d_X11_lend_134 : decode cX11_lend 134 = .ok (.aload_n 0, 1) := by decide +kernel
theorem d_X11_lend_135 : decode cX11_lend 135 = .ok (.getfield 46, 3) := by decide +kernel
theorem d_X11_lend_138 : decode cX11_lend 138 = .ok (.iload_n 2, 1) := by decide +kernel
theorem d_X11_lend_139 : decode cX11_lend 139 = .ok (.aaload, 1) := by decide +kernel
theorem d_X11_lend_140 : decode cX11_lend 140 = .ok (.iload_n 3, 1) := by decide +kernel
theorem d_X11_lend_141 : decode cX11_lend 141 = .ok (.iaload, 1) := by decide +kernel
theorem d_X11_lend_142 : decode cX11_lend 142 = .ok (.iastore, 1) := by decide +kernel
theorem d_X11_lend_143 : decode cX11_lend 143 = .ok (.iinc 3 1, 3) := by decide +kernel
theorem d_X11_lend_146 : decode cX11_lend 146 = .ok (.goto (-24), 3) := by decide +kernel
theorem d_X11_lend_149 : decode cX11_lend 149 = .ok (.iinc 2 1, 3) := by decide +kernel
theorem d_X11_lend_152 : decode cX11_lend 152 = .ok (.goto (-40), 3) := by decide +kernel
theorem d_X11_lend_155 : decode cX11_lend 155 = .ok (.aload_n 0, 1) := by decide +kernel
theorem d_X11_lend_156 : decode cX11_lend 156 = .ok (.getfield 199, 3) := by decide +kernel
theorem d_X11_lend_159 : decode cX11_lend 159 = .ok (.ireturn, 1) := by decide +kernel
set_option maxRecDepth 100000 in
theorem L_X11_lend {p : Program} {l : Launch} {e : Env} {s : State} {m : MethodId} {args : Array Value} {below : List Frame} {meth : Method} {c : Code} {D : va_G} {ca : Nat → ClassId} {ad sx sy : Nat → Nat} {A : Nat → Prop} {Q : QT} (C0 : CX p s m args meth c cX11_lend 4 yX11_lend.cls D ca ad A) (hE : EX sx sy A s s.heap) (hr : meth.sig.returnType = (some .int)) (hno : ∀ x ∈ c.exceptionTable.toList, False) : R_X11_lend (JW p l e { frames := 15, cells := 0, slots := 6 * 0, locals := 308 } s m args below meth c 4 D ca ad A (vx_MQ below (Qn D ca ad A Q) (Qx D ca ad A Q) args s 0 (6 * 0) A) gz gz true) Q := ⟨s_aln C0 (d_X11_lend_0) hgz (s_ic C0 (d_X11_lend_1) hgz (s_pi C0 (j := 0) (c0 := 11) rfl gX11 tyX11_ok nmX11 (by decide) rfl (by decide) rfl rfl wg1201 (d_X11_lend_2) hgz (s_aln C0 (d_X11_lend_5) hgz (s_iln C0 (d_X11_lend_6) hgz (s_ic C0 (d_X11_lend_7) hgz (s_aln C0 (d_X11_lend_8) hgz (s_gi C0 (j := 1) (c0 := 11) rfl gX11 (by decide) rfl (by decide) wg1202 (d_X11_lend_9) hgz (s_callS C0 hE (c_X11_in l) wg1355 wg1353 wg1354 wg12 ⟨by decide, by decide⟩ (by decide +kernel) ⟨by decide, by decide⟩ ⟨by decide, by decide⟩ (d_X11_lend_12) (fun x hx => (hno x hx).elim) ⟨by decide, by decide⟩ ⟨by decide, by decide⟩ (s_zeq C0 (d_X11_lend_15) (by decide) hgz hgz (fun _ _ _ h => h) (s_iln C0 (d_X11_lend_18) hgz (s_si C0 (d_X11_lend_19) hgz (s_cle C0 (d_X11_lend_22) (by decide) hgz hgz (fun _ _ _ h => h) (fun _ _ _ h => h)) (okn rfl) rfl)))))) (okn rfl))))) (okn rfl)),
  s_ic C0 (d_X11_lend_25) hgz (s_goto C0 (tgt := 30) (d_X11_lend_26) (by decide) hgz (fun _ _ _ h => h)) (okn rfl),
  s_ic C0 (d_X11_lend_29) hgz (fun _ _ _ h => h) (okn rfl),
  s_ic C0 (d_X11_lend_30) hgz (s_ic C0 (d_X11_lend_31) hgz (s_callV C0 hE (c_X11_bad l) wg1359 wg1356 wg1358 ws82 wg12 ⟨by decide, by decide⟩ (by decide +kernel) (c0 := 11) rfl ⟨by decide, by decide⟩ ⟨by decide, by decide⟩ (d_X11_lend_32) (fun x hx => (hno x hx).elim) ⟨by decide, by decide⟩ ⟨by decide, by decide⟩ (s_zeq C0 (d_X11_lend_35) (by decide) hgz hgz (fun _ _ _ h => h) (s_ic C0 (d_X11_lend_38) hgz (s_ri C0 hr (d_X11_lend_39) ⟨by decide, by decide⟩) (okn rfl)))) (okn rfl)) (okn rfl),
  s_aln C0 (d_X11_lend_40) hgz (s_iln C0 (d_X11_lend_41) hgz (s_callV C0 hE (c_X11_starts l) wg1363 wg1360 wg1362 ws83 wg12 ⟨by decide, by decide⟩ (by decide +kernel) (c0 := 11) rfl ⟨by decide, by decide⟩ ⟨by decide, by decide⟩ (d_X11_lend_42) (fun x hx => (hno x hx).elim) ⟨by decide, by decide⟩ ⟨by decide, by decide⟩ (s_aln C0 (d_X11_lend_45) hgz (s_ic C0 (d_X11_lend_46) hgz (s_pi C0 (j := 38) (c0 := 11) rfl gX11 tyX11_ok nmX11 (by decide) rfl (by decide) rfl rfl wg1239 (d_X11_lend_47) hgz (fun _ _ _ h => h)) (okn rfl))))),
  s_aln C0 (d_X11_lend_50) hgz (s_gi C0 (j := 5) (c0 := 11) rfl gX11 (by decide) rfl (by decide) wg1206 (d_X11_lend_51) hgz (s_zne C0 (d_X11_lend_54) (by decide) hgz hgz (fun _ _ _ h => h) (s_aln C0 (d_X11_lend_57) hgz (s_gi C0 (j := 4) (c0 := 11) rfl gX11 (by decide) rfl (by decide) wg1205 (d_X11_lend_58) hgz (s_aln C0 (d_X11_lend_61) hgz (s_gi C0 (j := 2) (c0 := 11) rfl gX11 (by decide) rfl (by decide) wg1203 (d_X11_lend_62) hgz (s_cge C0 (d_X11_lend_65) (by decide) hgz hgz (fun _ _ _ h => h) (s_aln C0 (d_X11_lend_68) hgz (s_callV C0 hE (c_X11_lending l) wg1430 wg1427 wg1429 ws96 wg12 ⟨by decide, by decide⟩ (by decide +kernel) (c0 := 11) rfl ⟨by decide, by decide⟩ ⟨by decide, by decide⟩ (d_X11_lend_69) (fun x hx => (hno x hx).elim) ⟨by decide, by decide⟩ ⟨by decide, by decide⟩ (s_aln C0 (d_X11_lend_72) hgz (s_callV C0 hE (c_X11_blanks l) wg1367 wg1364 wg1366 ws84 wg12 ⟨by decide, by decide⟩ (by decide +kernel) (c0 := 11) rfl ⟨by decide, by decide⟩ ⟨by decide, by decide⟩ (d_X11_lend_73) (fun x hx => (hno x hx).elim) ⟨by decide, by decide⟩ ⟨by decide, by decide⟩ (s_goto C0 (tgt := 50) (d_X11_lend_76) (by decide) hgz (fun _ _ _ h => h))))))))))))),
  s_aln C0 (d_X11_lend_79) hgz (s_aln C0 (d_X11_lend_80) hgz (s_gi C0 (j := 6) (c0 := 11) rfl gX11 (by decide) rfl (by decide) wg1207 (d_X11_lend_81) hgz (s_pi C0 (j := 3) (c0 := 11) rfl gX11 tyX11_ok nmX11 (by decide) rfl (by decide) rfl rfl wg1204 (d_X11_lend_84) hgz (s_aln C0 (d_X11_lend_87) hgz (s_gi C0 (j := 5) (c0 := 11) rfl gX11 (by decide) rfl (by decide) wg1206 (d_X11_lend_88) hgz (s_zeq C0 (d_X11_lend_91) (by decide) hgz hgz (fun _ _ _ h => h) (s_aln C0 (d_X11_lend_94) hgz (s_gi C0 (j := 5) (c0 := 11) rfl gX11 (by decide) rfl (by decide) wg1206 (d_X11_lend_95) hgz (s_bi C0 (d_X11_lend_98) hgz (s_sub C0 (d_X11_lend_100) hgz (s_ri C0 hr (d_X11_lend_101) ⟨by decide, by decide⟩)) (okn rfl) rfl))))))))),
  s_aln C0 (d_X11_lend_102) hgz (s_aln C0 (d_X11_lend_103) hgz (s_gi C0 (j := 38) (c0 := 11) rfl gX11 (by decide) rfl (by decide) wg1239 (d_X11_lend_104) hgz (s_pi C0 (j := 22) (c0 := 11) rfl gX11 tyX11_ok nmX11 (by decide) rfl (by decide) rfl rfl wg1223 (d_X11_lend_107) hgz (s_ic C0 (d_X11_lend_110) hgz (s_isn C0 (d_X11_lend_111) hgz (fun _ _ _ h => h)) (okn rfl))))),
  s_iln C0 (d_X11_lend_112) hgz (s_aln C0 (d_X11_lend_113) hgz (s_gi C0 (j := 22) (c0 := 11) rfl gX11 (by decide) rfl (by decide) wg1223 (d_X11_lend_114) hgz (s_cge C0 (d_X11_lend_117) (by decide) hgz hgz (fun _ _ _ h => h) (s_ic C0 (d_X11_lend_120) hgz (s_isn C0 (d_X11_lend_121) hgz (fun _ _ _ h => h)) (okn rfl))))),
  s_iln C0 (d_X11_lend_122) hgz (s_ic C0 (d_X11_lend_123) hgz (s_cge C0 (d_X11_lend_124) (by decide) hgz hgz (fun _ _ _ h => h) (s_aln C0 (d_X11_lend_127) hgz (s_gr C0 (j := 19) (c0 := 11) rfl gX11 (by decide) rfl rfl wg1220 (d_X11_lend_128) hgz (s_iln C0 (d_X11_lend_131) hgz (s_aa C0 (by decide) (by decide) rfl rfl (d_X11_lend_132) hgz (s_iln C0 (d_X11_lend_133) hgz (s_aln C0 (d_X11_lend_134) hgz (s_gr C0 (j := 18) (c0 := 11) rfl gX11 (by decide) rfl rfl wg1219 (d_X11_lend_135) hgz (s_iln C0 (d_X11_lend_138) hgz (s_aa C0 (by decide) (by decide) rfl rfl (d_X11_lend_139) hgz (s_iln C0 (d_X11_lend_140) hgz (s_ia C0 (d_X11_lend_141) hgz (s_iax C0 (d_X11_lend_142) hgz (s_inc C0 (d_X11_lend_143) hgz (s_goto C0 (tgt := 122) (d_X11_lend_146) (by decide) hgz (fun _ _ _ h => h)))))))))))))))) (okn rfl)),
  s_inc C0 (d_X11_lend_149) hgz (s_goto C0 (tgt := 112) (d_X11_lend_152) (by decide) hgz (fun _ _ _ h => h)),
  s_aln C0 (d_X11_lend_155) hgz (s_gi C0 (j := 22) (c0 := 11) rfl gX11 (by decide) rfl (by decide) wg1223 (d_X11_lend_156) hgz (s_ri C0 hr (d_X11_lend_159) ⟨by decide, by decide⟩))⟩
theorem c_X11_lend (l : Launch) : Ctr l yX11_lend cX11_lend 4 (some .int) 15 308 0 (fun sx => (nf G_X11_lend)) := ctr_of (by decide) gz gz ⟨rfl, rfl⟩ (fun p e s m args below meth c D ca ad sx sy A Q as M C0 hE hr hno hF => P_X11_lend (L_X11_lend C0 hE hr hno) hF)
theorem wg1531 : Cond.code ⟨"WeighedHallModel", "isLaw", "(I)Z"⟩ prog_13_method_48_code 1 (Option.some .boolean) ∈ GT := gt_mem 1651 (by decide +kernel) rfl
theorem wg1529 : Cond.methodLink "WeighedHallModel" 272 ⟨"WeighedHallModel", "isLaw", "(I)Z"⟩ ∈ GT := gt_mem 1649 (by decide +kernel) rfl
theorem wg1530 : Cond.static ⟨"WeighedHallModel", "isLaw", "(I)Z"⟩ ∈ GT := gt_mem 1650 (by decide +kernel) rfl
theorem d_X11_motion_0 : decode cX11_motion 0 = .ok (.aload_n 0, 1) := by decide +kernel
theorem d_X11_motion_1 : decode cX11_motion 1 = .ok (.iconst 0, 1) := by decide +kernel
theorem d_X11_motion_2 : decode cX11_motion 2 = .ok (.putfield 106, 3) := by decide +kernel
theorem d_X11_motion_5 : decode cX11_motion 5 = .ok (.aload_n 0, 1) := by decide +kernel
theorem d_X11_motion_6 : decode cX11_motion 6 = .ok (.aload_n 0, 1) := by decide +kernel
theorem d_X11_motion_7 : decode cX11_motion 7 = .ok (.iload_n 1, 1) := by decide +kernel
theorem d_X11_motion_8 : decode cX11_motion 8 = .ok (.invokevirtual 269, 3) := by decide +kernel
theorem d_X11_motion_11 : decode cX11_motion 11 = .ok (.ifCond .ne 7, 3) := by decide +kernel
theorem d_X11_motion_14 : decode cX11_motion 14 = .ok (.iconst 1, 1) := by decide +kernel
theorem d_X11_motion_15 : decode cX11_motion 15 = .ok (.goto 4, 3) := by decide +kernel
theorem d_X11_motion_18 : decode cX11_motion 18 = .ok (.iconst 0, 1) := by decide +kernel
theorem d_X11_motion_19 : decode cX11_motion 19 = .ok (.iconst 1, 1) := by decide +kernel
theorem d_X11_motion_20 : decode cX11_motion 20 = .ok (.iconst 0, 1) := by decide +kernel
theorem d_X11_motion_21 : decode cX11_motion 21 = .ok (.invokevirtual 188, 3) := by decide +kernel
theorem d_X11_motion_24 : decode cX11_motion 24 = .ok (.ifCond .ne 33, 3) := by decide +kernel
theorem d_X11_motion_27 : decode cX11_motion 27 = .ok (.aload_n 0, 1) := by decide +kernel
theorem d_X11_motion_28 : decode cX11_motion 28 = .ok (.iload_n 2, 1) := by decide +kernel
theorem d_X11_motion_29 : decode cX11_motion 29 = .ok (.invokestatic 272, 3) := by decide +kernel
theorem d_X11_motion_32 : decode cX11_motion 32 = .ok (.ifCond .eq 12, 3) := by decide +kernel
theorem d_X11_motion_35 : decode cX11_motion 35 = .ok (.iload_n 3, 1) := by decide +kernel
theorem d_X11_motion_36 : decode cX11_motion 36 = .ok (.iconst 0, 1) := by decide +kernel
theorem d_X11_motion_37 : decode cX11_motion 37 = .ok (.iconst 2, 1) := by decide +kernel
theorem d_X11_motion_38 : decode cX11_motion 38 = .ok (.invokestatic 140, 3) := by decide +kernel
theorem d_X11_motion_41 : decode cX11_motion 41 = .ok (.ifCond .ne 7, 3) := by decide +kernel
theorem d_X11_motion_44 : decode cX11_motion 44 = .ok (.iconst 1, 1) := by decide +kernel
theorem d_X11_motion_45 : decode cX11_motion 45 = .ok (.goto 4, 3) := by decide +kernel
theorem d_X11_motion_48 : decode cX11_motion 48 = .ok (.iconst 0, 1) := by decide +kernel
theorem d_X11_motion_49 : decode cX11_motion 49 = .ok (.iconst 2, 1) := by decide +kernel
theorem d_X11_motion_50 : decode cX11_motion 50 = .ok (.iconst 1, 1) := by decide +kernel
theorem d_X11_motion_51 : decode cX11_motion 51 = .ok (.invokevirtual 188, 3) := by decide +kernel
theorem d_X11_motion_54 : decode cX11_motion 54 = .ok (.ifCond .eq 5, 3) := by decide +kernel
theorem d_X11_motion_57 : decode cX11_motion 57 = .ok (.iconst 0, 1) := by decide +kernel
theorem d_X11_motion_58 : decode cX11_motion 58 = .ok (.ireturn, 1) := by decide +kernel
theorem d_X11_motion_59 : decode cX11_motion 59 = .ok (.aload_n 0, 1) := by decide +kernel
theorem d_X11_motion_60 : decode cX11_motion 60 = .ok (.invokevirtual 266, 3) := by decide +kernel
theorem d_X11_motion_63 : decode cX11_motion 63 = .ok (.iload_n 3, 1) := by decide +kernel
theorem d_X11_motion_64 : decode cX11_motion 64 = .ok (.iconst 2, 1) := by decide +kernel
theorem d_X11_motion_65 : decode cX11_motion 65 = .ok (.if_icmp .ge 16, 3) := by decide +kernel
theorem d_X11_motion_68 : decode cX11_motion 68 = .ok (.aload_n 0, 1) := by decide +kernel
theorem d_X11_motion_69 : decode cX11_motion 69 = .ok (.getfield 84, 3) := by decide +kernel
theorem d_X11_motion_72 : decode cX11_motion 72 = .ok (.iload_n 1, 1) := by decide +kernel
theorem d_X11_motion_73 : decode cX11_motion 73 = .ok (.aaload, 1) := by decide +kernel
theorem d_X11_motion_74 : decode cX11_motion 74 = .ok (.iload_n 2, 1) := by decide +kernel
theorem d_X11_motion_75 : decode cX11_motion 75 = .ok (.aaload, 1) := by decide +kernel
theorem d_X11_motion_76 : decode cX11_motion 76 = .ok (.iload_n 3, 1) := by decide +kernel
theorem d_X11_motion_77 : decode cX11_motion 77 = .ok (.iaload, 1) := by decide +kernel
theorem d_X11_motion_78 : decode cX11_motion 78 = .ok (.goto 12, 3) := by decide +kernel
theorem d_X11_motion_81 : decode cX11_motion 81 = .ok (.aload_n 0, 1) := by decide +kernel
theorem d_X11_motion_82 : decode cX11_motion 82 = .ok (.iload_n 2, 1) := by decide +kernel
theorem d_X11_motion_83 : decode cX11_motion 83 = .ok (.invokevirtual 275, 3) := by decide +kernel
theorem d_X11_motion_86 : decode cX11_motion 86 = .ok (.iload_n 1, 1) := by decide +kernel
theorem d_X11_motion_87 : decode cX11_motion 87 = .ok (.ishr, 1) := by decide +kernel
theorem d_X11_motion_88 : decode cX11_motion 88 = .ok (.iconst 1, 1) := by decide +kernel
theorem d_X11_motion_89 : decode cX11_motion 89 = .ok (.iand, 1) := by decide +kernel
theorem d_X11_motion_90 : decode cX11_motion 90 = .ok (.ireturn, 1) := by decide +kernel
set_option maxRecDepth 100000 in
theorem L_X11_motion {p : Program} {l : Launch} {e : Env} {s : State} {m : MethodId} {args : Array Value} {below : List Frame} {meth : Method} {c : Code} {D : va_G} {ca : Nat → ClassId} {ad sx sy : Nat → Nat} {A : Nat → Prop} {Q : QT} (C0 : CX p s m args meth c cX11_motion 4 yX11_motion.cls D ca ad A) (hE : EX sx sy A s s.heap) (hr : meth.sig.returnType = (some .int)) (hno : ∀ x ∈ c.exceptionTable.toList, False) : R_X11_motion (JW p l e { frames := 15, cells := 0, slots := 6 * 0, locals := 312 } s m args below meth c 4 D ca ad A (vx_MQ below (Qn D ca ad A Q) (Qx D ca ad A Q) args s 0 (6 * 0) A) gz gz true) Q := ⟨s_aln C0 (d_X11_motion_0) hgz (s_ic C0 (d_X11_motion_1) hgz (s_pi C0 (j := 0) (c0 := 11) rfl gX11 tyX11_ok nmX11 (by decide) rfl (by decide) rfl rfl wg1201 (d_X11_motion_2) hgz (s_aln C0 (d_X11_motion_5) hgz (s_aln C0 (d_X11_motion_6) hgz (s_iln C0 (d_X11_motion_7) hgz (s_callV C0 hE (c_X11_isMotion l) wg1528 wg1525 wg1527 ws110 wg12 ⟨by decide, by decide⟩ (by decide +kernel) (c0 := 11) rfl ⟨by decide, by decide⟩ ⟨by decide, by decide⟩ (d_X11_motion_8) (fun x hx => (hno x hx).elim) ⟨by decide, by decide⟩ ⟨by decide, by decide⟩ (s_zne C0 (d_X11_motion_11) (by decide) hgz hgz (fun _ _ _ h => h) (s_ic C0 (d_X11_motion_14) hgz (s_goto C0 (tgt := 19) (d_X11_motion_15) (by decide) hgz (fun _ _ _ h => h)) (okn rfl)))))))) (okn rfl)),
  s_ic C0 (d_X11_motion_18) hgz (fun _ _ _ h => h) (okn rfl),
  s_ic C0 (d_X11_motion_19) hgz (s_ic C0 (d_X11_motion_20) hgz (s_callV C0 hE (c_X11_bad l) wg1359 wg1356 wg1358 ws82 wg12 ⟨by decide, by decide⟩ (by decide +kernel) (c0 := 11) rfl ⟨by decide, by decide⟩ ⟨by decide, by decide⟩ (d_X11_motion_21) (fun x hx => (hno x hx).elim) ⟨by decide, by decide⟩ ⟨by decide, by decide⟩ (s_zne C0 (d_X11_motion_24) (by decide) hgz hgz (fun _ _ _ h => h) (s_aln C0 (d_X11_motion_27) hgz (s_iln C0 (d_X11_motion_28) hgz (s_callS C0 hE (c_X11_isLaw l) wg1531 wg1529 wg1530 wg12 ⟨by decide, by decide⟩ (by decide +kernel) ⟨by decide, by decide⟩ ⟨by decide, by decide⟩ (d_X11_motion_29) (fun x hx => (hno x hx).elim) ⟨by decide, by decide⟩ ⟨by decide, by decide⟩ (s_zeq C0 (d_X11_motion_32) (by decide) hgz hgz (fun _ _ _ h => h) (s_iln C0 (d_X11_motion_35) hgz (s_ic C0 (d_X11_motion_36) hgz (s_ic C0 (d_X11_motion_37) hgz (s_callS C0 hE (c_X11_in l) wg1355 wg1353 wg1354 wg12 ⟨by decide, by decide⟩ (by decide +kernel) ⟨by decide, by decide⟩ ⟨by decide, by decide⟩ (d_X11_motion_38) (fun x hx => (hno x hx).elim) ⟨by decide, by decide⟩ ⟨by decide, by decide⟩ (s_zne C0 (d_X11_motion_41) (by decide) hgz hgz (fun _ _ _ h => h) (fun _ _ _ h => h))) (okn rfl)) (okn rfl))))))))) (okn rfl)) (okn rfl),
  s_ic C0 (d_X11_motion_44) hgz (s_goto C0 (tgt := 49) (d_X11_motion_45) (by decide) hgz (fun _ _ _ h => h)) (okn rfl),
  s_ic C0 (d_X11_motion_48) hgz (fun _ _ _ h => h) (okn rfl),
  s_ic C0 (d_X11_motion_49) hgz (s_ic C0 (d_X11_motion_50) hgz (s_callV C0 hE (c_X11_bad l) wg1359 wg1356 wg1358 ws82 wg12 ⟨by decide, by decide⟩ (by decide +kernel) (c0 := 11) rfl ⟨by decide, by decide⟩ ⟨by decide, by decide⟩ (d_X11_motion_51) (fun x hx => (hno x hx).elim) ⟨by decide, by decide⟩ ⟨by decide, by decide⟩ (s_zeq C0 (d_X11_motion_54) (by decide) hgz hgz (fun _ _ _ h => h) (fun _ _ _ h => h))) (okn rfl)) (okn rfl),
  s_ic C0 (d_X11_motion_57) hgz (s_ri C0 hr (d_X11_motion_58) ⟨by decide, by decide⟩) (okn rfl),
  s_aln C0 (d_X11_motion_59) hgz (s_callV C0 hE (c_X11_goesAll l) wg1520 wg1517 wg1519 ws109 wg12 ⟨by decide, by decide⟩ (by decide +kernel) (c0 := 11) rfl ⟨by decide, by decide⟩ ⟨by decide, by decide⟩ (d_X11_motion_60) (fun x hx => (hno x hx).elim) ⟨by decide, by decide⟩ ⟨by decide, by decide⟩ (s_iln C0 (d_X11_motion_63) hgz (s_ic C0 (d_X11_motion_64) hgz (s_cge C0 (d_X11_motion_65) (by decide) hgz hgz (fun _ _ _ h => h) (s_aln C0 (d_X11_motion_68) hgz (s_gr C0 (j := 34) (c0 := 11) rfl gX11 (by decide) rfl rfl wg1235 (d_X11_motion_69) hgz (s_iln C0 (d_X11_motion_72) hgz (s_aa C0 (by decide) (by decide) rfl rfl (d_X11_motion_73) hgz (s_iln C0 (d_X11_motion_74) hgz (s_aa C0 (by decide) (by decide) rfl rfl (d_X11_motion_75) hgz (s_iln C0 (d_X11_motion_76) hgz (s_ia C0 (d_X11_motion_77) hgz (s_goto C0 (tgt := 90) (d_X11_motion_78) (by decide) hgz (fun _ _ _ h => h))))))))))) (okn rfl)))),
  s_aln C0 (d_X11_motion_81) hgz (s_iln C0 (d_X11_motion_82) hgz (s_callV C0 hE (c_X11_passesBy l) wg1535 wg1532 wg1534 ws111 wg12 ⟨by decide, by decide⟩ (by decide +kernel) (c0 := 11) rfl ⟨by decide, by decide⟩ ⟨by decide, by decide⟩ (d_X11_motion_83) (fun x hx => (hno x hx).elim) ⟨by decide, by decide⟩ ⟨by decide, by decide⟩ (s_iln C0 (d_X11_motion_86) hgz (s_shr C0 (d_X11_motion_87) hgz (s_ic C0 (d_X11_motion_88) hgz (s_and C0 (d_X11_motion_89) hgz (fun _ _ _ h => h)) (okn rfl)))))),
  s_ri C0 hr (d_X11_motion_90) ⟨by decide, by decide⟩⟩
theorem c_X11_motion (l : Launch) : Ctr l yX11_motion cX11_motion 4 (some .int) 15 312 0 (fun sx => (nf G_X11_motion)) := ctr_of (by decide) gz gz ⟨rfl, rfl⟩ (fun p e s m args below meth c D ca ad sx sy A Q as M C0 hE hr hno hF => P_X11_motion (L_X11_motion C0 hE hr hno) hF)
theorem wg1574 : Cond.code ⟨"WeighedHallModel", "all", "()I"⟩ prog_13_method_58_code 3 (Option.some .int) ∈ GT := gt_mem 1694 (by decide +kernel) rfl
theorem wg1571 : Cond.methodLink "WeighedHallModel" 290 ⟨"WeighedHallModel", "all", "()I"⟩ ∈ GT := gt_mem 1691 (by decide +kernel) rfl
theorem wg1573 : Cond.instanceMethod ⟨"WeighedHallModel", "all", "()I"⟩ ∈ GT := gt_mem 1693 (by decide +kernel) rfl
theorem ws114 : Cond.selects "WeighedHallModel" ⟨"WeighedHallModel", "all", "()I"⟩ ⟨"WeighedHallModel", "all", "()I"⟩ ∈ GT := gt_mem 114 (by decide +kernel) rfl
theorem d_X11_winsBy_0 : decode cX11_winsBy 0 = .ok (.iconst 0, 1) := by decide +kernel
theorem d_X11_winsBy_1 : decode cX11_winsBy 1 = .ok (.istore_n 2, 1) := by decide +kernel
theorem d_X11_winsBy_2 : decode cX11_winsBy 2 = .ok (.iconst 0, 1) := by decide +kernel
theorem d_X11_winsBy_3 : decode cX11_winsBy 3 = .ok (.istore_n 3, 1) := by decide +kernel
theorem d_X11_winsBy_4 : decode cX11_winsBy 4 = .ok (.iload_n 3, 1) := by decide +kernel
theorem d_X11_winsBy_5 : decode cX11_winsBy 5 = .ok (.aload_n 0, 1) := by decide +kernel
theorem d_X11_winsBy_6 : decode cX11_winsBy 6 = .ok (.getfield 23, 3) := by decide +kernel
theorem d_X11_winsBy_9 : decode cX11_winsBy 9 = .ok (.iconst 1, 1) := by decide +kernel
theorem d_X11_winsBy_10 : decode cX11_winsBy 10 = .ok (.iaload, 1) := by decide +kernel
theorem d_X11_winsBy_11 : decode cX11_winsBy 11 = .ok (.if_icmp .ge 47, 3) := by decide +kernel
theorem d_X11_winsBy_14 : decode cX11_winsBy 14 = .ok (.iload_n 2, 1) := by decide +kernel
theorem d_X11_winsBy_15 : decode cX11_winsBy 15 = .ok (.iload_n 1, 1) := by decide +kernel
theorem d_X11_winsBy_16 : decode cX11_winsBy 16 = .ok (.aload_n 0, 1) := by decide +kernel
theorem d_X11_winsBy_17 : decode cX11_winsBy 17 = .ok (.getfield 31, 3) := by decide +kernel
theorem d_X11_winsBy_20 : decode cX11_winsBy 20 = .ok (.aload_n 0, 1) := by decide +kernel
theorem d_X11_winsBy_21 : decode cX11_winsBy 21 = .ok (.getfield 37, 3) := by decide +kernel
theorem d_X11_winsBy_24 : decode cX11_winsBy 24 = .ok (.iload_n 3, 1) := by decide +kernel
theorem d_X11_winsBy_25 : decode cX11_winsBy 25 = .ok (.aaload, 1) := by decide +kernel
theorem d_X11_winsBy_26 : decode cX11_winsBy 26 = .ok (.iconst 0, 1) := by decide +kernel
theorem d_X11_winsBy_27 : decode cX11_winsBy 27 = .ok (.iaload, 1) := by decide +kernel
theorem d_X11_winsBy_28 : decode cX11_winsBy 28 = .ok (.aaload, 1) := by decide +kernel
theorem d_X11_winsBy_29 : decode cX11_winsBy 29 = .ok (.iconst 0, 1) := by decide +kernel
theorem d_X11_winsBy_30 : decode cX11_winsBy 30 = .ok (.iaload, 1) := by decide +kernel
theorem d_X11_winsBy_31 : decode cX11_winsBy 31 = .ok (.ishr, 1) := by decide +kernel
theorem d_X11_winsBy_32 : decode cX11_winsBy 32 = .ok (.iconst 1, 1) := by decide +kernel
theorem d_X11_winsBy_33 : decode cX11_winsBy 33 = .ok (.iand, 1) := by decide +kernel
theorem d_X11_winsBy_34 : decode cX11_winsBy 34 = .ok (.iconst 1, 1) := by decide +kernel
theorem d_X11_winsBy_35 : decode cX11_winsBy 35 = .ok (.if_icmp .ne 14, 3) := by decide +kernel
theorem d_X11_winsBy_38 : decode cX11_winsBy 38 = .ok (.aload_n 0, 1) := by decide +kernel
theorem d_X11_winsBy_39 : decode cX11_winsBy 39 = .ok (.getfield 37, 3) := by decide +kernel
theorem d_X11_winsBy_42 : decode cX11_winsBy 42 = .ok (.iload_n 3, 1) := by decide +kernel
theorem d_X11_winsBy_43 : decode cX11_winsBy 43 = .ok (.aaload, 1) := by decide +kernel
theorem d_X11_winsBy_44 : decode cX11_winsBy 44 = .ok (.iconst 1, 1) := by decide +kernel
theorem d_X11_winsBy_45 : decode cX11_winsBy 45 = .ok (.iaload, 1) := by decide +kernel
theorem d_X11_winsBy_46 : decode cX11_winsBy 46 = .ok (.goto 4, 3) := by decide +kernel
theorem d_X11_winsBy_49 : decode cX11_winsBy 49 = .ok (.iconst 0, 1) := by decide +kernel
theorem d_X11_winsBy_50 : decode cX11_winsBy 50 = .ok (.iadd, 1) := by decide +kernel
theorem d_X11_winsBy_51 : decode cX11_winsBy 51 = .ok (.istore_n 2, 1) := by decide +kernel
theorem d_X11_winsBy_52 : decode cX11_winsBy 52 = .ok (.iinc 3 1, 3) := by decide +kernel
theorem d_X11_winsBy_55 : decode cX11_winsBy 55 = .ok (.goto (-51), 3) := by decide +kernel
theorem d_X11_winsBy_58 : decode cX11_winsBy 58 = .ok (.iconst 2, 1) := by decide +kernel
theorem d_X11_winsBy_59 : decode cX11_winsBy 59 = .ok (.iload_n 2, 1) := by decide +kernel
theorem d_X11_winsBy_60 : decode cX11_winsBy 60 = .ok (.imul, 1) := by decide +kernel
theorem d_X11_winsBy_61 : decode cX11_winsBy 61 = .ok (.aload_n 0, 1) := by decide +kernel
theorem d_X11_winsBy_62 : decode cX11_winsBy 62 = .ok (.invokevirtual 290, 3) := by decide +kernel
theorem d_X11_winsBy_65 : decode cX11_winsBy 65 = .ok (.if_icmp .le 7, 3) := by decide +kernel
theorem d_X11_winsBy_68 : decode cX11_winsBy 68 = .ok (.iconst 1, 1) := by decide +kernel
theorem d_X11_winsBy_69 : decode cX11_winsBy 69 = .ok (.goto 4, 3) := by decide +kernel
theorem d_X11_winsBy_72 : decode cX11_winsBy 72 = .ok (.iconst 0, 1) := by decide +kernel
theorem d_X11_winsBy_73 : decode cX11_winsBy 73 = .ok (.ireturn, 1) := by decide +kernel
set_option maxRecDepth 100000 in
theorem L_X11_winsBy {p : Program} {l : Launch} {e : Env} {s : State} {m : MethodId} {args : Array Value} {below : List Frame} {meth : Method} {c : Code} {D : va_G} {ca : Nat → ClassId} {ad sx sy : Nat → Nat} {A : Nat → Prop} {Q : QT} (C0 : CX p s m args meth c cX11_winsBy 4 yX11_winsBy.cls D ca ad A) (hE : EX sx sy A s s.heap) (hr : meth.sig.returnType = (some .boolean)) (hno : ∀ x ∈ c.exceptionTable.toList, False) : R_X11_winsBy (JW p l e { frames := 11, cells := 0, slots := 6 * 0, locals := 222 } s m args below meth c 4 D ca ad A (vx_MQ below (Qn D ca ad A Q) (Qx D ca ad A Q) args s 0 (6 * 0) A) gz gz true) Q := ⟨s_ic C0 (d_X11_winsBy_0) hgz (s_isn C0 (d_X11_winsBy_1) hgz (s_ic C0 (d_X11_winsBy_2) hgz (s_isn C0 (d_X11_winsBy_3) hgz (fun _ _ _ h => h)) (okn rfl))) (okn rfl),
  s_iln C0 (d_X11_winsBy_4) hgz (s_aln C0 (d_X11_winsBy_5) hgz (s_gr C0 (j := 11) (c0 := 11) rfl gX11 (by decide) rfl rfl wg1212 (d_X11_winsBy_6) hgz (s_ic C0 (d_X11_winsBy_9) hgz (s_ia C0 (d_X11_winsBy_10) hgz (s_cge C0 (d_X11_winsBy_11) (by decide) hgz hgz (fun _ _ _ h => h) (s_iln C0 (d_X11_winsBy_14) hgz (s_iln C0 (d_X11_winsBy_15) hgz (s_aln C0 (d_X11_winsBy_16) hgz (s_gr C0 (j := 13) (c0 := 11) rfl gX11 (by decide) rfl rfl wg1214 (d_X11_winsBy_17) hgz (s_aln C0 (d_X11_winsBy_20) hgz (s_gr C0 (j := 15) (c0 := 11) rfl gX11 (by decide) rfl rfl wg1216 (d_X11_winsBy_21) hgz (s_iln C0 (d_X11_winsBy_24) hgz (s_aa C0 (by decide) (by decide) rfl rfl (d_X11_winsBy_25) hgz (s_ic C0 (d_X11_winsBy_26) hgz (s_ia C0 (d_X11_winsBy_27) hgz (s_aa C0 (by decide) (by decide) rfl rfl (d_X11_winsBy_28) hgz (s_ic C0 (d_X11_winsBy_29) hgz (s_ia C0 (d_X11_winsBy_30) hgz (s_shr C0 (d_X11_winsBy_31) hgz (s_ic C0 (d_X11_winsBy_32) hgz (s_and C0 (d_X11_winsBy_33) hgz (s_ic C0 (d_X11_winsBy_34) hgz (s_cne C0 (d_X11_winsBy_35) (by decide) hgz hgz (fun _ _ _ h => h) (s_aln C0 (d_X11_winsBy_38) hgz (s_gr C0 (j := 15) (c0 := 11) rfl gX11 (by decide) rfl rfl wg1216 (d_X11_winsBy_39) hgz (s_iln C0 (d_X11_winsBy_42) hgz (s_aa C0 (by decide) (by decide) rfl rfl (d_X11_winsBy_43) hgz (s_ic C0 (d_X11_winsBy_44) hgz (s_ia C0 (d_X11_winsBy_45) hgz (s_goto C0 (tgt := 50) (d_X11_winsBy_46) (by decide) hgz (fun _ _ _ h => h))) (okn rfl))))))) (okn rfl))) (okn rfl)))) (okn rfl)))) (okn rfl)))))))))))) (okn rfl)))),
  s_ic C0 (d_X11_winsBy_49) hgz (fun _ _ _ h => h) (okn rfl),
  s_add C0 (d_X11_winsBy_50) hgz (s_isn C0 (d_X11_winsBy_51) hgz (s_inc C0 (d_X11_winsBy_52) hgz (s_goto C0 (tgt := 4) (d_X11_winsBy_55) (by decide) hgz (fun _ _ _ h => h)))),
  s_ic C0 (d_X11_winsBy_58) hgz (s_iln C0 (d_X11_winsBy_59) hgz (s_mul C0 (d_X11_winsBy_60) hgz (s_aln C0 (d_X11_winsBy_61) hgz (s_callV C0 hE (c_X11_all l) wg1574 wg1571 wg1573 ws114 wg12 ⟨by decide, by decide⟩ (by decide +kernel) (c0 := 11) rfl ⟨by decide, by decide⟩ ⟨by decide, by decide⟩ (d_X11_winsBy_62) (fun x hx => (hno x hx).elim) ⟨by decide, by decide⟩ ⟨by decide, by decide⟩ (s_cle C0 (d_X11_winsBy_65) (by decide) hgz hgz (fun _ _ _ h => h) (s_ic C0 (d_X11_winsBy_68) hgz (s_goto C0 (tgt := 73) (d_X11_winsBy_69) (by decide) hgz (fun _ _ _ h => h)) (okn rfl))))))) (okn rfl),
  s_ic C0 (d_X11_winsBy_72) hgz (fun _ _ _ h => h) (okn rfl),
  s_rz C0 hr (d_X11_winsBy_73) ⟨by decide, by decide⟩⟩
theorem c_X11_winsBy (l : Launch) : Ctr l yX11_winsBy cX11_winsBy 4 (some .boolean) 11 222 0 (fun sx => (nf G_X11_winsBy)) := ctr_of (by decide) gz gz ⟨rfl, rfl⟩ (fun p e s m args below meth c D ca ad sx sy A Q as M C0 hE hr hno hF => P_X11_winsBy (L_X11_winsBy C0 hE hr hno) hF)
theorem wg1586 : Cond.code ⟨"WeighedHallModel", "winsBy", "(I)Z"⟩ prog_13_method_62_code 4 (Option.some .boolean) ∈ GT := gt_mem 1706 (by decide +kernel) rfl
theorem wg1583 : Cond.methodLink "WeighedHallModel" 296 ⟨"WeighedHallModel", "winsBy", "(I)Z"⟩ ∈ GT := gt_mem 1703 (by decide +kernel) rfl
theorem wg1585 : Cond.instanceMethod ⟨"WeighedHallModel", "winsBy", "(I)Z"⟩ ∈ GT := gt_mem 1705 (by decide +kernel) rfl
theorem ws115 : Cond.selects "WeighedHallModel" ⟨"WeighedHallModel", "winsBy", "(I)Z"⟩ ⟨"WeighedHallModel", "winsBy", "(I)Z"⟩ ∈ GT := gt_mem 115 (by decide +kernel) rfl
theorem d_X11_owed_0 : decode cX11_owed 0 = .ok (.aload_n 0, 1) := by decide +kernel
theorem d_X11_owed_1 : decode cX11_owed 1 = .ok (.iconst 0, 1) := by decide +kernel
theorem d_X11_owed_2 : decode cX11_owed 2 = .ok (.putfield 106, 3) := by decide +kernel
theorem d_X11_owed_5 : decode cX11_owed 5 = .ok (.aload_n 0, 1) := by decide +kernel
theorem d_X11_owed_6 : decode cX11_owed 6 = .ok (.iload_n 1, 1) := by decide +kernel
theorem d_X11_owed_7 : decode cX11_owed 7 = .ok (.iconst 0, 1) := by decide +kernel
theorem d_X11_owed_8 : decode cX11_owed 8 = .ok (.iconst 3, 1) := by decide +kernel
theorem d_X11_owed_9 : decode cX11_owed 9 = .ok (.invokestatic 140, 3) := by decide +kernel
theorem d_X11_owed_12 : decode cX11_owed 12 = .ok (.ifCond .eq 23, 3) := by decide +kernel
theorem d_X11_owed_15 : decode cX11_owed 15 = .ok (.iload_n 2, 1) := by decide +kernel
theorem d_X11_owed_16 : decode cX11_owed 16 = .ok (.iconst 0, 1) := by decide +kernel
theorem d_X11_owed_17 : decode cX11_owed 17 = .ok (.sipush 9999, 3) := by decide +kernel
theorem d_X11_owed_20 : decode cX11_owed 20 = .ok (.invokestatic 140, 3) := by decide +kernel
theorem d_X11_owed_23 : decode cX11_owed 23 = .ok (.ifCond .eq 12, 3) := by decide +kernel
theorem d_X11_owed_26 : decode cX11_owed 26 = .ok (.iload_n 3, 1) := by decide +kernel
theorem d_X11_owed_27 : decode cX11_owed 27 = .ok (.iconst 0, 1) := by decide +kernel
theorem d_X11_owed_28 : decode cX11_owed 28 = .ok (.iconst 1, 1) := by decide +kernel
theorem d_X11_owed_29 : decode cX11_owed 29 = .ok (.invokestatic 140, 3) := by decide +kernel
theorem d_X11_owed_32 : decode cX11_owed 32 = .ok (.ifCond .ne 7, 3) := by decide +kernel
theorem d_X11_owed_35 : decode cX11_owed 35 = .ok (.iconst 1, 1) := by decide +kernel
theorem d_X11_owed_36 : decode cX11_owed 36 = .ok (.goto 4, 3) := by decide +kernel
theorem d_X11_owed_39 : decode cX11_owed 39 = .ok (.iconst 0, 1) := by decide +kernel
theorem d_X11_owed_40 : decode cX11_owed 40 = .ok (.iconst 1, 1) := by decide +kernel
theorem d_X11_owed_41 : decode cX11_owed 41 = .ok (.iconst 1, 1) := by decide +kernel
theorem d_X11_owed_42 : decode cX11_owed 42 = .ok (.invokevirtual 188, 3) := by decide +kernel
theorem d_X11_owed_45 : decode cX11_owed 45 = .ok (.ifCond .eq 5, 3) := by decide +kernel
theorem d_X11_owed_48 : decode cX11_owed 48 = .ok (.iconst 0, 1) := by decide +kernel
theorem d_X11_owed_49 : decode cX11_owed 49 = .ok (.ireturn, 1) := by decide +kernel
theorem d_X11_owed_50 : decode cX11_owed 50 = .ok (.iconst 0, 1) := by decide +kernel
theorem d_X11_owed_51 : decode cX11_owed 51 = .ok (.istore 4, 2) := by decide +kernel
theorem d_X11_owed_53 : decode cX11_owed 53 = .ok (.bipush 24, 2) := by decide +kernel
theorem d_X11_owed_55 : decode cX11_owed 55 = .ok (.istore 5, 2) := by decide +kernel
theorem d_X11_owed_57 : decode cX11_owed 57 = .ok (.iconst 0, 1) := by decide +kernel
theorem d_X11_owed_58 : decode cX11_owed 58 = .ok (.istore 6, 2) := by decide +kernel
theorem d_X11_owed_60 : decode cX11_owed 60 = .ok (.iload 6, 2) := by decide +kernel
theorem d_X11_owed_62 : decode cX11_owed 62 = .ok (.bipush 16, 2) := by decide +kernel
theorem d_X11_owed_64 : decode cX11_owed 64 = .ok (.if_icmp .ge 64, 3) := by decide +kernel
theorem d_X11_owed_67 : decode cX11_owed 67 = .ok (.iload 6, 2) := by decide +kernel
theorem d_X11_owed_69 : decode cX11_owed 69 = .ok (.iload_n 1, 1) := by decide +kernel
theorem d_X11_owed_70 : decode cX11_owed 70 = .ok (.ishr, 1) := by decide +kernel
theorem d_X11_owed_71 : decode cX11_owed 71 = .ok (.iconst 1, 1) := by decide +kernel
theorem d_X11_owed_72 : decode cX11_owed 72 = .ok (.iand, 1) := by decide +kernel
theorem d_X11_owed_73 : decode cX11_owed 73 = .ok (.ifCond .ne 49, 3) := by decide +kernel
theorem d_X11_owed_76 : decode cX11_owed 76 = .ok (.aload_n 0, 1) := by decide +kernel
theorem d_X11_owed_77 : decode cX11_owed 77 = .ok (.iload 6, 2) := by decide +kernel
theorem d_X11_owed_79 : decode cX11_owed 79 = .ok (.invokevirtual 296, 3) := by decide +kernel
theorem d_X11_owed_82 : decode cX11_owed 82 = .ok (.ifCond .ne 40, 3) := by decide +kernel
theorem d_X11_owed_85 : decode cX11_owed 85 = .ok (.aload_n 0, 1) := by decide +kernel
theorem d_X11_owed_86 : decode cX11_owed 86 = .ok (.iload 6, 2) := by decide +kernel
theorem d_X11_owed_88 : decode cX11_owed 88 = .ok (.iconst 1, 1) := by decide +kernel
theorem d_X11_owed_89 : decode cX11_owed 89 = .ok (.iload_n 1, 1) := by decide +kernel
theorem d_X11_owed_90 : decode cX11_owed 90 = .ok (.ishl, 1) := by decide +kernel
theorem d_X11_owed_91 : decode cX11_owed 91 = .ok (.ior, 1) := by decide +kernel
theorem d_X11_owed_92 : decode cX11_owed 92 = .ok (.invokevirtual 296, 3) := by decide +kernel
theorem d_X11_owed_95 : decode cX11_owed 95 = .ok (.ifCond .eq 27, 3) := by decide +kernel
theorem d_X11_owed_98 : decode cX11_owed 98 = .ok (.iload 4, 2) := by decide +kernel
theorem d_X11_owed_100 : decode cX11_owed 100 = .ok (.iload 6, 2) := by decide +kernel
theorem d_X11_owed_102 : decode cX11_owed 102 = .ok (.invokestatic 278, 3) := by decide +kernel
theorem d_X11_owed_105 : decode cX11_owed 105 = .ok (.invokestatic 299, 3) := by decide +kernel
theorem d_X11_owed_108 : decode cX11_owed 108 = .ok (.iconst 3, 1) := by decide +kernel
theorem d_X11_owed_109 : decode cX11_owed 109 = .ok (.iload 6, 2) := by decide +kernel
theorem d_X11_owed_111 : decode cX11_owed 111 = .ok (.invokestatic 278, 3) := by decide +kernel
theorem d_X11_owed_114 : decode cX11_owed 114 = .ok (.isub, 1) := by decide +kernel
theorem d_X11_owed_115 : decode cX11_owed 115 = .ok (.invokestatic 299, 3) := by decide +kernel
theorem d_X11_owed_118 : decode cX11_owed 118 = .ok (.imul, 1) := by decide +kernel
theorem d_X11_owed_119 : decode cX11_owed 119 = .ok (.iadd, 1) := by decide +kernel
theorem d_X11_owed_120 : decode cX11_owed 120 = .ok (.istore 4, 2) := by decide +kernel
theorem d_X11_owed_122 : decode cX11_owed 122 = .ok (.iinc 6 1, 3) := by decide +kernel
theorem d_X11_owed_125 : decode cX11_owed 125 = .ok (.goto (-65), 3) := by decide +kernel
theorem d_X11_owed_128 : decode cX11_owed 128 = .ok (.iload 4, 2) := by decide +kernel
theorem d_X11_owed_130 : decode cX11_owed 130 = .ok (.iload_n 2, 1) := by decide +kernel
theorem d_X11_owed_131 : decode cX11_owed 131 = .ok (.imul, 1) := by decide +kernel
theorem d_X11_owed_132 : decode cX11_owed 132 = .ok (.istore 4, 2) := by decide +kernel
theorem d_X11_owed_134 : decode cX11_owed 134 = .ok (.iload 4, 2) := by decide +kernel
theorem d_X11_owed_136 : decode cX11_owed 136 = .ok (.istore 6, 2) := by decide +kernel
theorem d_X11_owed_138 : decode cX11_owed 138 = .ok (.iload 5, 2) := by decide +kernel
theorem d_X11_owed_140 : decode cX11_owed 140 = .ok (.istore 7, 2) := by decide +kernel
theorem d_X11_owed_142 : decode cX11_owed 142 = .ok (.iload 7, 2) := by decide +kernel
theorem d_X11_owed_144 : decode cX11_owed 144 = .ok (.ifCond .eq 21, 3) := by decide +kernel
theorem d_X11_owed_147 : decode cX11_owed 147 = .ok (.iload 6, 2) := by decide +kernel
theorem d_X11_owed_149 : decode cX11_owed 149 = .ok (.iload 7, 2) := by decide +kernel
theorem d_X11_owed_151 : decode cX11_owed 151 = .ok (.irem, 1) := by decide +kernel
theorem d_X11_owed_152 : decode cX11_owed 152 = .ok (.istore 8, 2) := by decide +kernel
theorem d_X11_owed_154 : decode cX11_owed 154 = .ok (.iload 7, 2) := by decide +kernel
theorem d_X11_owed_156 : decode cX11_owed 156 = .ok (.istore 6, 2) := by decide +kernel
theorem d_X11_owed_158 : decode cX11_owed 158 = .ok (.iload 8, 2) := by decide +kernel
theorem d_X11_owed_160 : decode cX11_owed 160 = .ok (.istore 7, 2) := by decide +kernel
theorem d_X11_owed_162 : decode cX11_owed 162 = .ok (.goto (-20), 3) := by decide +kernel
theorem d_X11_owed_165 : decode cX11_owed 165 = .ok (.iload_n 3, 1) := by decide +kernel
theorem d_X11_owed_166 : decode cX11_owed 166 = .ok (.ifCond .ne 11, 3) := by decide +kernel
theorem d_X11_owed_169 : decode cX11_owed 169 = .ok (.iload 4, 2) := by decide +kernel
theorem d_X11_owed_171 : decode cX11_owed 171 = .ok (.iload 6, 2) := by decide +kernel
theorem d_X11_owed_173 : decode cX11_owed 173 = .ok (.idiv, 1) := by decide +kernel
theorem d_X11_owed_174 : decode cX11_owed 174 = .ok (.goto 8, 3) := by decide +kernel
theorem d_X11_owed_177 : decode cX11_owed 177 = .ok (.iload 5, 2) := by decide +kernel
theorem d_X11_owed_179 : decode cX11_owed 179 = .ok (.iload 6, 2) := by decide +kernel
theorem d_X11_owed_181 : decode cX11_owed 181 = .ok (.idiv, 1) := by decide +kernel
theorem d_X11_owed_182 : decode cX11_owed 182 = .ok (.ireturn, 1) := by decide +kernel
set_option maxRecDepth 100000 in
theorem L_X11_owed {p : Program} {l : Launch} {e : Env} {s : State} {m : MethodId} {args : Array Value} {below : List Frame} {meth : Method} {c : Code} {D : va_G} {ca : Nat → ClassId} {ad sx sy : Nat → Nat} {A : Nat → Prop} {Q : QT} (C0 : CX p s m args meth c cX11_owed 9 yX11_owed.cls D ca ad A) (hE : EX sx sy A s s.heap) (hr : meth.sig.returnType = (some .int)) (hno : ∀ x ∈ c.exceptionTable.toList, False) : R_X11_owed (JW p l e { frames := 15, cells := 0, slots := 6 * 0, locals := 300 } s m args below meth c 9 D ca ad A (vx_MQ below (Qn D ca ad A Q) (Qx D ca ad A Q) args s 0 (6 * 0) A) gz gz true) Q := ⟨s_aln C0 (d_X11_owed_0) hgz (s_ic C0 (d_X11_owed_1) hgz (s_pi C0 (j := 0) (c0 := 11) rfl gX11 tyX11_ok nmX11 (by decide) rfl (by decide) rfl rfl wg1201 (d_X11_owed_2) hgz (s_aln C0 (d_X11_owed_5) hgz (s_iln C0 (d_X11_owed_6) hgz (s_ic C0 (d_X11_owed_7) hgz (s_ic C0 (d_X11_owed_8) hgz (s_callS C0 hE (c_X11_in l) wg1355 wg1353 wg1354 wg12 ⟨by decide, by decide⟩ (by decide +kernel) ⟨by decide, by decide⟩ ⟨by decide, by decide⟩ (d_X11_owed_9) (fun x hx => (hno x hx).elim) ⟨by decide, by decide⟩ ⟨by decide, by decide⟩ (s_zeq C0 (d_X11_owed_12) (by decide) hgz hgz (fun _ _ _ h => h) (s_iln C0 (d_X11_owed_15) hgz (s_ic C0 (d_X11_owed_16) hgz (s_si C0 (d_X11_owed_17) hgz (s_callS C0 hE (c_X11_in l) wg1355 wg1353 wg1354 wg12 ⟨by decide, by decide⟩ (by decide +kernel) ⟨by decide, by decide⟩ ⟨by decide, by decide⟩ (d_X11_owed_20) (fun x hx => (hno x hx).elim) ⟨by decide, by decide⟩ ⟨by decide, by decide⟩ (s_zeq C0 (d_X11_owed_23) (by decide) hgz hgz (fun _ _ _ h => h) (s_iln C0 (d_X11_owed_26) hgz (s_ic C0 (d_X11_owed_27) hgz (s_ic C0 (d_X11_owed_28) hgz (s_callS C0 hE (c_X11_in l) wg1355 wg1353 wg1354 wg12 ⟨by decide, by decide⟩ (by decide +kernel) ⟨by decide, by decide⟩ ⟨by decide, by decide⟩ (d_X11_owed_29) (fun x hx => (hno x hx).elim) ⟨by decide, by decide⟩ ⟨by decide, by decide⟩ (s_zne C0 (d_X11_owed_32) (by decide) hgz hgz (fun _ _ _ h => h) (fun _ _ _ h => h))) (okn rfl)) (okn rfl))))) (okn rfl) rfl) (okn rfl))))) (okn rfl)) (okn rfl))))) (okn rfl)),
  s_ic C0 (d_X11_owed_35) hgz (s_goto C0 (tgt := 40) (d_X11_owed_36) (by decide) hgz (fun _ _ _ h => h)) (okn rfl),
  s_ic C0 (d_X11_owed_39) hgz (fun _ _ _ h => h) (okn rfl),
  s_ic C0 (d_X11_owed_40) hgz (s_ic C0 (d_X11_owed_41) hgz (s_callV C0 hE (c_X11_bad l) wg1359 wg1356 wg1358 ws82 wg12 ⟨by decide, by decide⟩ (by decide +kernel) (c0 := 11) rfl ⟨by decide, by decide⟩ ⟨by decide, by decide⟩ (d_X11_owed_42) (fun x hx => (hno x hx).elim) ⟨by decide, by decide⟩ ⟨by decide, by decide⟩ (s_zeq C0 (d_X11_owed_45) (by decide) hgz hgz (fun _ _ _ h => h) (s_ic C0 (d_X11_owed_48) hgz (s_ri C0 hr (d_X11_owed_49) ⟨by decide, by decide⟩) (okn rfl)))) (okn rfl)) (okn rfl),
  s_ic C0 (d_X11_owed_50) hgz (s_is C0 (d_X11_owed_51) hgz (s_bi C0 (d_X11_owed_53) hgz (s_is C0 (d_X11_owed_55) hgz (s_ic C0 (d_X11_owed_57) hgz (s_is C0 (d_X11_owed_58) hgz (fun _ _ _ h => h)) (okn rfl))) (okn rfl) rfl)) (okn rfl),
  s_il C0 (d_X11_owed_60) hgz (s_bi C0 (d_X11_owed_62) hgz (s_cge C0 (d_X11_owed_64) (by decide) hgz hgz (fun _ _ _ h => h) (s_il C0 (d_X11_owed_67) hgz (s_iln C0 (d_X11_owed_69) hgz (s_shr C0 (d_X11_owed_70) hgz (s_ic C0 (d_X11_owed_71) hgz (s_and C0 (d_X11_owed_72) hgz (s_zne C0 (d_X11_owed_73) (by decide) hgz hgz (fun _ _ _ h => h) (s_aln C0 (d_X11_owed_76) hgz (s_il C0 (d_X11_owed_77) hgz (s_callV C0 hE (c_X11_winsBy l) wg1586 wg1583 wg1585 ws115 wg12 ⟨by decide, by decide⟩ (by decide +kernel) (c0 := 11) rfl ⟨by decide, by decide⟩ ⟨by decide, by decide⟩ (d_X11_owed_79) (fun x hx => (hno x hx).elim) ⟨by decide, by decide⟩ ⟨by decide, by decide⟩ (s_zne C0 (d_X11_owed_82) (by decide) hgz hgz (fun _ _ _ h => h) (s_aln C0 (d_X11_owed_85) hgz (s_il C0 (d_X11_owed_86) hgz (s_ic C0 (d_X11_owed_88) hgz (s_iln C0 (d_X11_owed_89) hgz (s_shl C0 (d_X11_owed_90) hgz (s_or C0 (d_X11_owed_91) hgz (s_callV C0 hE (c_X11_winsBy l) wg1586 wg1583 wg1585 ws115 wg12 ⟨by decide, by decide⟩ (by decide +kernel) (c0 := 11) rfl ⟨by decide, by decide⟩ ⟨by decide, by decide⟩ (d_X11_owed_92) (fun x hx => (hno x hx).elim) ⟨by decide, by decide⟩ ⟨by decide, by decide⟩ (s_zeq C0 (d_X11_owed_95) (by decide) hgz hgz (fun _ _ _ h => h) (s_il C0 (d_X11_owed_98) hgz (s_il C0 (d_X11_owed_100) hgz (s_callS C0 hE (c_X11_ones l) wg1546 wg1544 wg1545 wg12 ⟨by decide, by decide⟩ (by decide +kernel) ⟨by decide, by decide⟩ ⟨by decide, by decide⟩ (d_X11_owed_102) (fun x hx => (hno x hx).elim) ⟨by decide, by decide⟩ ⟨by decide, by decide⟩ (s_callS C0 hE (c_X11_factorial l) wg1593 wg1591 wg1592 wg12 ⟨by decide, by decide⟩ (by decide +kernel) ⟨by decide, by decide⟩ ⟨by decide, by decide⟩ (d_X11_owed_105) (fun x hx => (hno x hx).elim) ⟨by decide, by decide⟩ ⟨by decide, by decide⟩ (s_ic C0 (d_X11_owed_108) hgz (s_il C0 (d_X11_owed_109) hgz (s_callS C0 hE (c_X11_ones l) wg1546 wg1544 wg1545 wg12 ⟨by decide, by decide⟩ (by decide +kernel) ⟨by decide, by decide⟩ ⟨by decide, by decide⟩ (d_X11_owed_111) (fun x hx => (hno x hx).elim) ⟨by decide, by decide⟩ ⟨by decide, by decide⟩ (s_sub C0 (d_X11_owed_114) hgz (s_callS C0 hE (c_X11_factorial l) wg1593 wg1591 wg1592 wg12 ⟨by decide, by decide⟩ (by decide +kernel) ⟨by decide, by decide⟩ ⟨by decide, by decide⟩ (d_X11_owed_115) (fun x hx => (hno x hx).elim) ⟨by decide, by decide⟩ ⟨by decide, by decide⟩ (s_mul C0 (d_X11_owed_118) hgz (s_add C0 (d_X11_owed_119) hgz (s_is C0 (d_X11_owed_120) hgz (fun _ _ _ h => h)))))))) (okn rfl))))))))))) (okn rfl)))))))))) (okn rfl)))))) (okn rfl) rfl),
  s_inc C0 (d_X11_owed_122) hgz (s_goto C0 (tgt := 60) (d_X11_owed_125) (by decide) hgz (fun _ _ _ h => h)),
  s_il C0 (d_X11_owed_128) hgz (s_iln C0 (d_X11_owed_130) hgz (s_mul C0 (d_X11_owed_131) hgz (s_is C0 (d_X11_owed_132) hgz (s_il C0 (d_X11_owed_134) hgz (s_is C0 (d_X11_owed_136) hgz (s_il C0 (d_X11_owed_138) hgz (s_is C0 (d_X11_owed_140) hgz (fun _ _ _ h => h)))))))),
  s_il C0 (d_X11_owed_142) hgz (s_zeq C0 (d_X11_owed_144) (by decide) hgz hgz (fun _ _ _ h => h) (s_il C0 (d_X11_owed_147) hgz (s_il C0 (d_X11_owed_149) hgz (s_rem C0 (d_X11_owed_151) hgz (s_is C0 (d_X11_owed_152) hgz (s_il C0 (d_X11_owed_154) hgz (s_is C0 (d_X11_owed_156) hgz (s_il C0 (d_X11_owed_158) hgz (s_is C0 (d_X11_owed_160) hgz (s_goto C0 (tgt := 142) (d_X11_owed_162) (by decide) hgz (fun _ _ _ h => h))))))))))),
  s_iln C0 (d_X11_owed_165) hgz (s_zne C0 (d_X11_owed_166) (by decide) hgz hgz (fun _ _ _ h => h) (s_il C0 (d_X11_owed_169) hgz (s_il C0 (d_X11_owed_171) hgz (s_div C0 (d_X11_owed_173) hgz (s_goto C0 (tgt := 182) (d_X11_owed_174) (by decide) hgz (fun _ _ _ h => h)))))),
  s_il C0 (d_X11_owed_177) hgz (s_il C0 (d_X11_owed_179) hgz (s_div C0 (d_X11_owed_181) hgz (fun _ _ _ h => h))),
  s_ri C0 hr (d_X11_owed_182) ⟨by decide, by decide⟩⟩
theorem c_X11_owed (l : Launch) : Ctr l yX11_owed cX11_owed 9 (some .int) 15 300 0 (fun sx => (nf G_X11_owed)) := ctr_of (by decide) gz gz ⟨rfl, rfl⟩ (fun p e s m args below meth c D ca ad sx sy A Q as M C0 hE hr hno hF => P_X11_owed (L_X11_owed C0 hE hr hno) hF)
theorem d_X11_own_0 : decode cX11_own 0 = .ok (.iconst 0, 1) := by decide +kernel
theorem d_X11_own_1 : decode cX11_own 1 = .ok (.istore_n 2, 1) := by decide +kernel
theorem d_X11_own_2 : decode cX11_own 2 = .ok (.iconst 0, 1) := by decide +kernel
theorem d_X11_own_3 : decode cX11_own 3 = .ok (.istore_n 3, 1) := by decide +kernel
theorem d_X11_own_4 : decode cX11_own 4 = .ok (.iload_n 3, 1) := by decide +kernel
theorem d_X11_own_5 : decode cX11_own 5 = .ok (.aload_n 0, 1) := by decide +kernel
theorem d_X11_own_6 : decode cX11_own 6 = .ok (.getfield 23, 3) := by decide +kernel
theorem d_X11_own_9 : decode cX11_own 9 = .ok (.iconst 1, 1) := by decide +kernel
theorem d_X11_own_10 : decode cX11_own 10 = .ok (.iaload, 1) := by decide +kernel
theorem d_X11_own_11 : decode cX11_own 11 = .ok (.if_icmp .ge 36, 3) := by decide +kernel
theorem d_X11_own_14 : decode cX11_own 14 = .ok (.iload_n 2, 1) := by decide +kernel
theorem d_X11_own_15 : decode cX11_own 15 = .ok (.aload_n 0, 1) := by decide +kernel
theorem d_X11_own_16 : decode cX11_own 16 = .ok (.getfield 37, 3) := by decide +kernel
theorem d_X11_own_19 : decode cX11_own 19 = .ok (.iload_n 3, 1) := by decide +kernel
theorem d_X11_own_20 : decode cX11_own 20 = .ok (.aaload, 1) := by decide +kernel
theorem d_X11_own_21 : decode cX11_own 21 = .ok (.iconst 0, 1) := by decide +kernel
theorem d_X11_own_22 : decode cX11_own 22 = .ok (.iaload, 1) := by decide +kernel
theorem d_X11_own_23 : decode cX11_own 23 = .ok (.iload_n 1, 1) := by decide +kernel
theorem d_X11_own_24 : decode cX11_own 24 = .ok (.if_icmp .ne 14, 3) := by decide +kernel
theorem d_X11_own_27 : decode cX11_own 27 = .ok (.aload_n 0, 1) := by decide +kernel
theorem d_X11_own_28 : decode cX11_own 28 = .ok (.getfield 37, 3) := by decide +kernel
theorem d_X11_own_31 : decode cX11_own 31 = .ok (.iload_n 3, 1) := by decide +kernel
theorem d_X11_own_32 : decode cX11_own 32 = .ok (.aaload, 1) := by decide +kernel
theorem d_X11_own_33 : decode cX11_own 33 = .ok (.iconst 1, 1) := by decide +kernel
theorem d_X11_own_34 : decode cX11_own 34 = .ok (.iaload, 1) := by decide +kernel
theorem d_X11_own_35 : decode cX11_own 35 = .ok (.goto 4, 3) := by decide +kernel
theorem d_X11_own_38 : decode cX11_own 38 = .ok (.iconst 0, 1) := by decide +kernel
theorem d_X11_own_39 : decode cX11_own 39 = .ok (.iadd, 1) := by decide +kernel
theorem d_X11_own_40 : decode cX11_own 40 = .ok (.istore_n 2, 1) := by decide +kernel
theorem d_X11_own_41 : decode cX11_own 41 = .ok (.iinc 3 1, 3) := by decide +kernel
theorem d_X11_own_44 : decode cX11_own 44 = .ok (.goto (-40), 3) := by decide +kernel
theorem d_X11_own_47 : decode cX11_own 47 = .ok (.iload_n 2, 1) := by decide +kernel
theorem d_X11_own_48 : decode cX11_own 48 = .ok (.ireturn, 1) := by decide +kernel
set_option maxRecDepth 100000 in
theorem L_X11_own {p : Program} {l : Launch} {e : Env} {s : State} {m : MethodId} {args : Array Value} {below : List Frame} {meth : Method} {c : Code} {D : va_G} {ca : Nat → ClassId} {ad sx sy : Nat → Nat} {A : Nat → Prop} {Q : QT} (C0 : CX p s m args meth c cX11_own 4 yX11_own.cls D ca ad A) (hE : EX sx sy A s s.heap) (hr : meth.sig.returnType = (some .int)) (hno : ∀ x ∈ c.exceptionTable.toList, False) : R_X11_own (JW p l e { frames := 10, cells := 0, slots := 6 * 0, locals := 200 } s m args below meth c 4 D ca ad A (vx_MQ below (Qn D ca ad A Q) (Qx D ca ad A Q) args s 0 (6 * 0) A) gz gz true) Q := ⟨s_ic C0 (d_X11_own_0) hgz (s_isn C0 (d_X11_own_1) hgz (s_ic C0 (d_X11_own_2) hgz (s_isn C0 (d_X11_own_3) hgz (fun _ _ _ h => h)) (okn rfl))) (okn rfl),
  s_iln C0 (d_X11_own_4) hgz (s_aln C0 (d_X11_own_5) hgz (s_gr C0 (j := 11) (c0 := 11) rfl gX11 (by decide) rfl rfl wg1212 (d_X11_own_6) hgz (s_ic C0 (d_X11_own_9) hgz (s_ia C0 (d_X11_own_10) hgz (s_cge C0 (d_X11_own_11) (by decide) hgz hgz (fun _ _ _ h => h) (s_iln C0 (d_X11_own_14) hgz (s_aln C0 (d_X11_own_15) hgz (s_gr C0 (j := 15) (c0 := 11) rfl gX11 (by decide) rfl rfl wg1216 (d_X11_own_16) hgz (s_iln C0 (d_X11_own_19) hgz (s_aa C0 (by decide) (by decide) rfl rfl (d_X11_own_20) hgz (s_ic C0 (d_X11_own_21) hgz (s_ia C0 (d_X11_own_22) hgz (s_iln C0 (d_X11_own_23) hgz (s_cne C0 (d_X11_own_24) (by decide) hgz hgz (fun _ _ _ h => h) (s_aln C0 (d_X11_own_27) hgz (s_gr C0 (j := 15) (c0 := 11) rfl gX11 (by decide) rfl rfl wg1216 (d_X11_own_28) hgz (s_iln C0 (d_X11_own_31) hgz (s_aa C0 (by decide) (by decide) rfl rfl (d_X11_own_32) hgz (s_ic C0 (d_X11_own_33) hgz (s_ia C0 (d_X11_own_34) hgz (s_goto C0 (tgt := 39) (d_X11_own_35) (by decide) hgz (fun _ _ _ h => h))) (okn rfl))))))))) (okn rfl))))))))) (okn rfl)))),
  s_ic C0 (d_X11_own_38) hgz (fun _ _ _ h => h) (okn rfl),
  s_add C0 (d_X11_own_39) hgz (s_isn C0 (d_X11_own_40) hgz (s_inc C0 (d_X11_own_41) hgz (s_goto C0 (tgt := 4) (d_X11_own_44) (by decide) hgz (fun _ _ _ h => h)))),
  s_iln C0 (d_X11_own_47) hgz (s_ri C0 hr (d_X11_own_48) ⟨by decide, by decide⟩)⟩
theorem c_X11_own (l : Launch) : Ctr l yX11_own cX11_own 4 (some .int) 10 200 0 (fun sx => (nf G_X11_own)) := ctr_of (by decide) gz gz ⟨rfl, rfl⟩ (fun p e s m args below meth c D ca ad sx sy A Q as M C0 hE hr hno hF => P_X11_own (L_X11_own C0 hE hr hno) hF)
theorem d_X11_passes_0 : decode cX11_passes 0 = .ok (.aload_n 0, 1) := by decide +kernel
theorem d_X11_passes_1 : decode cX11_passes 1 = .ok (.iconst 0, 1) := by decide +kernel
theorem d_X11_passes_2 : decode cX11_passes 2 = .ok (.putfield 106, 3) := by decide +kernel
theorem d_X11_passes_5 : decode cX11_passes 5 = .ok (.aload_n 0, 1) := by decide +kernel
theorem d_X11_passes_6 : decode cX11_passes 6 = .ok (.iload_n 1, 1) := by decide +kernel
theorem d_X11_passes_7 : decode cX11_passes 7 = .ok (.invokestatic 272, 3) := by decide +kernel
theorem d_X11_passes_10 : decode cX11_passes 10 = .ok (.ifCond .ne 7, 3) := by decide +kernel
theorem d_X11_passes_13 : decode cX11_passes 13 = .ok (.iconst 1, 1) := by decide +kernel
theorem d_X11_passes_14 : decode cX11_passes 14 = .ok (.goto 4, 3) := by decide +kernel
theorem d_X11_passes_17 : decode cX11_passes 17 = .ok (.iconst 0, 1) := by decide +kernel
theorem d_X11_passes_18 : decode cX11_passes 18 = .ok (.iconst 1, 1) := by decide +kernel
theorem d_X11_passes_19 : decode cX11_passes 19 = .ok (.iconst 1, 1) := by decide +kernel
theorem d_X11_passes_20 : decode cX11_passes 20 = .ok (.invokevirtual 188, 3) := by decide +kernel
theorem d_X11_passes_23 : decode cX11_passes 23 = .ok (.ifCond .eq 5, 3) := by decide +kernel
theorem d_X11_passes_26 : decode cX11_passes 26 = .ok (.iconst 0, 1) := by decide +kernel
theorem d_X11_passes_27 : decode cX11_passes 27 = .ok (.ireturn, 1) := by decide +kernel
theorem d_X11_passes_28 : decode cX11_passes 28 = .ok (.aload_n 0, 1) := by decide +kernel
theorem d_X11_passes_29 : decode cX11_passes 29 = .ok (.invokevirtual 266, 3) := by decide +kernel
theorem d_X11_passes_32 : decode cX11_passes 32 = .ok (.aload_n 0, 1) := by decide +kernel
theorem d_X11_passes_33 : decode cX11_passes 33 = .ok (.iload_n 1, 1) := by decide +kernel
theorem d_X11_passes_34 : decode cX11_passes 34 = .ok (.invokevirtual 275, 3) := by decide +kernel
theorem d_X11_passes_37 : decode cX11_passes 37 = .ok (.ireturn, 1) := by decide +kernel
set_option maxRecDepth 100000 in
theorem L_X11_passes {p : Program} {l : Launch} {e : Env} {s : State} {m : MethodId} {args : Array Value} {below : List Frame} {meth : Method} {c : Code} {D : va_G} {ca : Nat → ClassId} {ad sx sy : Nat → Nat} {A : Nat → Prop} {Q : QT} (C0 : CX p s m args meth c cX11_passes 2 yX11_passes.cls D ca ad A) (hE : EX sx sy A s s.heap) (hr : meth.sig.returnType = (some .int)) (hno : ∀ x ∈ c.exceptionTable.toList, False) : R_X11_passes (JW p l e { frames := 15, cells := 0, slots := 6 * 0, locals := 312 } s m args below meth c 2 D ca ad A (vx_MQ below (Qn D ca ad A Q) (Qx D ca ad A Q) args s 0 (6 * 0) A) gz gz true) Q := ⟨s_aln C0 (d_X11_passes_0) hgz (s_ic C0 (d_X11_passes_1) hgz (s_pi C0 (j := 0) (c0 := 11) rfl gX11 tyX11_ok nmX11 (by decide) rfl (by decide) rfl rfl wg1201 (d_X11_passes_2) hgz (s_aln C0 (d_X11_passes_5) hgz (s_iln C0 (d_X11_passes_6) hgz (s_callS C0 hE (c_X11_isLaw l) wg1531 wg1529 wg1530 wg12 ⟨by decide, by decide⟩ (by decide +kernel) ⟨by decide, by decide⟩ ⟨by decide, by decide⟩ (d_X11_passes_7) (fun x hx => (hno x hx).elim) ⟨by decide, by decide⟩ ⟨by decide, by decide⟩ (s_zne C0 (d_X11_passes_10) (by decide) hgz hgz (fun _ _ _ h => h) (s_ic C0 (d_X11_passes_13) hgz (s_goto C0 (tgt := 18) (d_X11_passes_14) (by decide) hgz (fun _ _ _ h => h)) (okn rfl))))))) (okn rfl)),
  s_ic C0 (d_X11_passes_17) hgz (fun _ _ _ h => h) (okn rfl),
  s_ic C0 (d_X11_passes_18) hgz (s_ic C0 (d_X11_passes_19) hgz (s_callV C0 hE (c_X11_bad l) wg1359 wg1356 wg1358 ws82 wg12 ⟨by decide, by decide⟩ (by decide +kernel) (c0 := 11) rfl ⟨by decide, by decide⟩ ⟨by decide, by decide⟩ (d_X11_passes_20) (fun x hx => (hno x hx).elim) ⟨by decide, by decide⟩ ⟨by decide, by decide⟩ (s_zeq C0 (d_X11_passes_23) (by decide) hgz hgz (fun _ _ _ h => h) (s_ic C0 (d_X11_passes_26) hgz (s_ri C0 hr (d_X11_passes_27) ⟨by decide, by decide⟩) (okn rfl)))) (okn rfl)) (okn rfl),
  s_aln C0 (d_X11_passes_28) hgz (s_callV C0 hE (c_X11_goesAll l) wg1520 wg1517 wg1519 ws109 wg12 ⟨by decide, by decide⟩ (by decide +kernel) (c0 := 11) rfl ⟨by decide, by decide⟩ ⟨by decide, by decide⟩ (d_X11_passes_29) (fun x hx => (hno x hx).elim) ⟨by decide, by decide⟩ ⟨by decide, by decide⟩ (s_aln C0 (d_X11_passes_32) hgz (s_iln C0 (d_X11_passes_33) hgz (s_callV C0 hE (c_X11_passesBy l) wg1535 wg1532 wg1534 ws111 wg12 ⟨by decide, by decide⟩ (by decide +kernel) (c0 := 11) rfl ⟨by decide, by decide⟩ ⟨by decide, by decide⟩ (d_X11_passes_34) (fun x hx => (hno x hx).elim) ⟨by decide, by decide⟩ ⟨by decide, by decide⟩ (s_ri C0 hr (d_X11_passes_37) ⟨by decide, by decide⟩)))))⟩
theorem c_X11_passes (l : Launch) : Ctr l yX11_passes cX11_passes 2 (some .int) 15 312 0 (fun sx => (nf G_X11_passes)) := ctr_of (by decide) gz gz ⟨rfl, rfl⟩ (fun p e s m args below meth c D ca ad sx sy A Q as M C0 hE hr hno hF => P_X11_passes (L_X11_passes C0 hE hr hno) hF)
theorem d_X11_passesLater_0 : decode cX11_passesLater 0 = .ok (.aload_n 0, 1) := by decide +kernel
theorem d_X11_passesLater_1 : decode cX11_passesLater 1 = .ok (.aload_n 0, 1) := by decide +kernel
theorem d_X11_passesLater_2 : decode cX11_passesLater 2 = .ok (.getfield 43, 3) := by decide +kernel
theorem d_X11_passesLater_5 : decode cX11_passesLater 5 = .ok (.iload_n 1, 1) := by decide +kernel
theorem d_X11_passesLater_6 : decode cX11_passesLater 6 = .ok (.aaload, 1) := by decide +kernel
theorem d_X11_passesLater_7 : decode cX11_passesLater 7 = .ok (.iconst 0, 1) := by decide +kernel
theorem d_X11_passesLater_8 : decode cX11_passesLater 8 = .ok (.iaload, 1) := by decide +kernel
theorem d_X11_passesLater_9 : decode cX11_passesLater 9 = .ok (.putfield 229, 3) := by decide +kernel
theorem d_X11_passesLater_12 : decode cX11_passesLater 12 = .ok (.aload_n 0, 1) := by decide +kernel
theorem d_X11_passesLater_13 : decode cX11_passesLater 13 = .ok (.iload_n 2, 1) := by decide +kernel
theorem d_X11_passesLater_14 : decode cX11_passesLater 14 = .ok (.putfield 232, 3) := by decide +kernel
theorem d_X11_passesLater_17 : decode cX11_passesLater 17 = .ok (.aload_n 0, 1) := by decide +kernel
theorem d_X11_passesLater_18 : decode cX11_passesLater 18 = .ok (.sipush 199, 3) := by decide +kernel
theorem d_X11_passesLater_21 : decode cX11_passesLater 21 = .ok (.invokevirtual 260, 3) := by decide +kernel
theorem d_X11_passesLater_24 : decode cX11_passesLater 24 = .ok (.aload_n 0, 1) := by decide +kernel
theorem d_X11_passesLater_25 : decode cX11_passesLater 25 = .ok (.aload_n 0, 1) := by decide +kernel
theorem d_X11_passesLater_26 : decode cX11_passesLater 26 = .ok (.getfield 23, 3) := by decide +kernel
theorem d_X11_passesLater_29 : decode cX11_passesLater 29 = .ok (.iconst 4, 1) := by decide +kernel
theorem d_X11_passesLater_30 : decode cX11_passesLater 30 = .ok (.iaload, 1) := by decide +kernel
theorem d_X11_passesLater_31 : decode cX11_passesLater 31 = .ok (.invokevirtual 275, 3) := by decide +kernel
theorem d_X11_passesLater_34 : decode cX11_passesLater 34 = .ok (.iload_n 1, 1) := by decide +kernel
theorem d_X11_passesLater_35 : decode cX11_passesLater 35 = .ok (.ishr, 1) := by decide +kernel
theorem d_X11_passesLater_36 : decode cX11_passesLater 36 = .ok (.iconst 1, 1) := by decide +kernel
theorem d_X11_passesLater_37 : decode cX11_passesLater 37 = .ok (.iand, 1) := by decide +kernel
theorem d_X11_passesLater_38 : decode cX11_passesLater 38 = .ok (.iconst 1, 1) := by decide +kernel
theorem d_X11_passesLater_39 : decode cX11_passesLater 39 = .ok (.if_icmp .ne 7, 3) := by decide +kernel
theorem d_X11_passesLater_42 : decode cX11_passesLater 42 = .ok (.iconst 1, 1) := by decide +kernel
theorem d_X11_passesLater_43 : decode cX11_passesLater 43 = .ok (.goto 4, 3) := by decide +kernel
theorem d_X11_passesLater_46 : decode cX11_passesLater 46 = .ok (.iconst 0, 1) := by decide +kernel
theorem d_X11_passesLater_47 : decode cX11_passesLater 47 = .ok (.ireturn, 1) := by decide +kernel
set_option maxRecDepth 100000 in
theorem L_X11_passesLater {p : Program} {l : Launch} {e : Env} {s : State} {m : MethodId} {args : Array Value} {below : List Frame} {meth : Method} {c : Code} {D : va_G} {ca : Nat → ClassId} {ad sx sy : Nat → Nat} {A : Nat → Prop} {Q : QT} (C0 : CX p s m args meth c cX11_passesLater 3 yX11_passesLater.cls D ca ad A) (hE : EX sx sy A s s.heap) (hr : meth.sig.returnType = (some .boolean)) (hno : ∀ x ∈ c.exceptionTable.toList, False) : R_X11_passesLater (JW p l e { frames := 14, cells := 0, slots := 6 * 0, locals := 292 } s m args below meth c 3 D ca ad A (vx_MQ below (Qn D ca ad A Q) (Qx D ca ad A Q) args s 0 (6 * 0) A) gz gz true) Q := ⟨s_aln C0 (d_X11_passesLater_0) hgz (s_aln C0 (d_X11_passesLater_1) hgz (s_gr C0 (j := 17) (c0 := 11) rfl gX11 (by decide) rfl rfl wg1218 (d_X11_passesLater_2) hgz (s_iln C0 (d_X11_passesLater_5) hgz (s_aa C0 (by decide) (by decide) rfl rfl (d_X11_passesLater_6) hgz (s_ic C0 (d_X11_passesLater_7) hgz (s_ia C0 (d_X11_passesLater_8) hgz (s_pi C0 (j := 36) (c0 := 11) rfl gX11 tyX11_ok nmX11 (by decide) rfl (by decide) rfl rfl wg1237 (d_X11_passesLater_9) hgz (s_aln C0 (d_X11_passesLater_12) hgz (s_iln C0 (d_X11_passesLater_13) hgz (s_pi C0 (j := 37) (c0 := 11) rfl gX11 tyX11_ok nmX11 (by decide) rfl (by decide) rfl rfl wg1238 (d_X11_passesLater_14) hgz (s_aln C0 (d_X11_passesLater_17) hgz (s_si C0 (d_X11_passesLater_18) hgz (s_callV C0 hE (c_X11_goes l) wg1477 wg1474 wg1476 ws101 wg12 ⟨by decide, by decide⟩ (by decide +kernel) (c0 := 11) rfl ⟨by decide, by decide⟩ ⟨by decide, by decide⟩ (d_X11_passesLater_21) (fun x hx => (hno x hx).elim) ⟨by decide, by decide⟩ ⟨by decide, by decide⟩ (s_aln C0 (d_X11_passesLater_24) hgz (s_aln C0 (d_X11_passesLater_25) hgz (s_gr C0 (j := 11) (c0 := 11) rfl gX11 (by decide) rfl rfl wg1212 (d_X11_passesLater_26) hgz (s_ic C0 (d_X11_passesLater_29) hgz (s_ia C0 (d_X11_passesLater_30) hgz (s_callV C0 hE (c_X11_passesBy l) wg1535 wg1532 wg1534 ws111 wg12 ⟨by decide, by decide⟩ (by decide +kernel) (c0 := 11) rfl ⟨by decide, by decide⟩ ⟨by decide, by decide⟩ (d_X11_passesLater_31) (fun x hx => (hno x hx).elim) ⟨by decide, by decide⟩ ⟨by decide, by decide⟩ (s_iln C0 (d_X11_passesLater_34) hgz (s_shr C0 (d_X11_passesLater_35) hgz (s_ic C0 (d_X11_passesLater_36) hgz (s_and C0 (d_X11_passesLater_37) hgz (s_ic C0 (d_X11_passesLater_38) hgz (s_cne C0 (d_X11_passesLater_39) (by decide) hgz hgz (fun _ _ _ h => h) (s_ic C0 (d_X11_passesLater_42) hgz (s_goto C0 (tgt := 47) (d_X11_passesLater_43) (by decide) hgz (fun _ _ _ h => h)) (okn rfl))) (okn rfl))) (okn rfl)))))) (okn rfl)))))) (okn rfl) rfl))))))) (okn rfl)))))),
  s_ic C0 (d_X11_passesLater_46) hgz (fun _ _ _ h => h) (okn rfl),
  s_rz C0 hr (d_X11_passesLater_47) ⟨by decide, by decide⟩⟩
theorem c_X11_passesLater (l : Launch) : Ctr l yX11_passesLater cX11_passesLater 3 (some .boolean) 14 292 0 (fun sx => (nf G_X11_passesLater)) := ctr_of (by decide) gz gz ⟨rfl, rfl⟩ (fun p e s m args below meth c D ca ad sx sy A Q as M C0 hE hr hno hF => P_X11_passesLater (L_X11_passesLater C0 hE hr hno) hF)
theorem wg1446 : Cond.code ⟨"WeighedHallModel", "isPerson", "(I)Z"⟩ prog_13_method_26_code 2 (Option.some .boolean) ∈ GT := gt_mem 1566 (by decide +kernel) rfl
theorem wg1443 : Cond.methodLink "WeighedHallModel" 214 ⟨"WeighedHallModel", "isPerson", "(I)Z"⟩ ∈ GT := gt_mem 1563 (by decide +kernel) rfl
theorem wg1445 : Cond.instanceMethod ⟨"WeighedHallModel", "isPerson", "(I)Z"⟩ ∈ GT := gt_mem 1565 (by decide +kernel) rfl
theorem ws97 : Cond.selects "WeighedHallModel" ⟨"WeighedHallModel", "isPerson", "(I)Z"⟩ ⟨"WeighedHallModel", "isPerson", "(I)Z"⟩ ∈ GT := gt_mem 97 (by decide +kernel) rfl
theorem wg1450 : Cond.code ⟨"WeighedHallModel", "own", "(I)I"⟩ prog_13_method_29_code 4 (Option.some .int) ∈ GT := gt_mem 1570 (by decide +kernel) rfl
theorem wg1447 : Cond.methodLink "WeighedHallModel" 217 ⟨"WeighedHallModel", "own", "(I)I"⟩ ∈ GT := gt_mem 1567 (by decide +kernel) rfl
theorem wg1449 : Cond.instanceMethod ⟨"WeighedHallModel", "own", "(I)I"⟩ ∈ GT := gt_mem 1569 (by decide +kernel) rfl
theorem ws98 : Cond.selects "WeighedHallModel" ⟨"WeighedHallModel", "own", "(I)I"⟩ ⟨"WeighedHallModel", "own", "(I)I"⟩ ∈ GT := gt_mem 98 (by decide +kernel) rfl
theorem d_X11_person_0 : decode cX11_person 0 = .ok (.aload_n 0, 1) := by decide +kernel
theorem d_X11_person_1 : decode cX11_person 1 = .ok (.iconst 0, 1) := by decide +kernel
theorem d_X11_person_2 : decode cX11_person 2 = .ok (.putfield 106, 3) := by decide +kernel
theorem d_X11_person_5 : decode cX11_person 5 = .ok (.aload_n 0, 1) := by decide +kernel
theorem d_X11_person_6 : decode cX11_person 6 = .ok (.aload_n 0, 1) := by decide +kernel
theorem d_X11_person_7 : decode cX11_person 7 = .ok (.iload_n 1, 1) := by decide +kernel
theorem d_X11_person_8 : decode cX11_person 8 = .ok (.invokevirtual 214, 3) := by decide +kernel
theorem d_X11_person_11 : decode cX11_person 11 = .ok (.ifCond .ne 7, 3) := by decide +kernel
theorem d_X11_person_14 : decode cX11_person 14 = .ok (.iconst 1, 1) := by decide +kernel
theorem d_X11_person_15 : decode cX11_person 15 = .ok (.goto 4, 3) := by decide +kernel
theorem d_X11_person_18 : decode cX11_person 18 = .ok (.iconst 0, 1) := by decide +kernel
theorem d_X11_person_19 : decode cX11_person 19 = .ok (.iconst 1, 1) := by decide +kernel
theorem d_X11_person_20 : decode cX11_person 20 = .ok (.iconst 0, 1) := by decide +kernel
theorem d_X11_person_21 : decode cX11_person 21 = .ok (.invokevirtual 188, 3) := by decide +kernel
theorem d_X11_person_24 : decode cX11_person 24 = .ok (.ifCond .ne 26, 3) := by decide +kernel
theorem d_X11_person_27 : decode cX11_person 27 = .ok (.aload_n 0, 1) := by decide +kernel
theorem d_X11_person_28 : decode cX11_person 28 = .ok (.iload_n 2, 1) := by decide +kernel
theorem d_X11_person_29 : decode cX11_person 29 = .ok (.iconst 0, 1) := by decide +kernel
theorem d_X11_person_30 : decode cX11_person 30 = .ok (.iconst 2, 1) := by decide +kernel
theorem d_X11_person_31 : decode cX11_person 31 = .ok (.invokestatic 140, 3) := by decide +kernel
theorem d_X11_person_34 : decode cX11_person 34 = .ok (.ifCond .ne 7, 3) := by decide +kernel
theorem d_X11_person_37 : decode cX11_person 37 = .ok (.iconst 1, 1) := by decide +kernel
theorem d_X11_person_38 : decode cX11_person 38 = .ok (.goto 4, 3) := by decide +kernel
theorem d_X11_person_41 : decode cX11_person 41 = .ok (.iconst 0, 1) := by decide +kernel
theorem d_X11_person_42 : decode cX11_person 42 = .ok (.iconst 2, 1) := by decide +kernel
theorem d_X11_person_43 : decode cX11_person 43 = .ok (.iconst 1, 1) := by decide +kernel
theorem d_X11_person_44 : decode cX11_person 44 = .ok (.invokevirtual 188, 3) := by decide +kernel
theorem d_X11_person_47 : decode cX11_person 47 = .ok (.ifCond .eq 5, 3) := by decide +kernel
theorem d_X11_person_50 : decode cX11_person 50 = .ok (.iconst 0, 1) := by decide +kernel
theorem d_X11_person_51 : decode cX11_person 51 = .ok (.ireturn, 1) := by decide +kernel
theorem d_X11_person_52 : decode cX11_person 52 = .ok (.iload_n 2, 1) := by decide +kernel
theorem d_X11_person_53 : decode cX11_person 53 = .ok (.iconst 2, 1) := by decide +kernel
theorem d_X11_person_54 : decode cX11_person 54 = .ok (.if_icmp .ge 14, 3) := by decide +kernel
theorem d_X11_person_57 : decode cX11_person 57 = .ok (.aload_n 0, 1) := by decide +kernel
theorem d_X11_person_58 : decode cX11_person 58 = .ok (.getfield 31, 3) := by decide +kernel
theorem d_X11_person_61 : decode cX11_person 61 = .ok (.iload_n 1, 1) := by decide +kernel
theorem d_X11_person_62 : decode cX11_person 62 = .ok (.aaload, 1) := by decide +kernel
theorem d_X11_person_63 : decode cX11_person 63 = .ok (.iload_n 2, 1) := by decide +kernel
theorem d_X11_person_64 : decode cX11_person 64 = .ok (.iaload, 1) := by decide +kernel
theorem d_X11_person_65 : decode cX11_person 65 = .ok (.goto 8, 3) := by decide +kernel
theorem d_X11_person_68 : decode cX11_person 68 = .ok (.aload_n 0, 1) := by decide +kernel
theorem d_X11_person_69 : decode cX11_person 69 = .ok (.iload_n 1, 1) := by decide +kernel
theorem d_X11_person_70 : decode cX11_person 70 = .ok (.invokevirtual 217, 3) := by decide +kernel
theorem d_X11_person_73 : decode cX11_person 73 = .ok (.ireturn, 1) := by decide +kernel
set_option maxRecDepth 100000 in
theorem L_X11_person {p : Program} {l : Launch} {e : Env} {s : State} {m : MethodId} {args : Array Value} {below : List Frame} {meth : Method} {c : Code} {D : va_G} {ca : Nat → ClassId} {ad sx sy : Nat → Nat} {A : Nat → Prop} {Q : QT} (C0 : CX p s m args meth c cX11_person 3 yX11_person.cls D ca ad A) (hE : EX sx sy A s s.heap) (hr : meth.sig.returnType = (some .int)) (hno : ∀ x ∈ c.exceptionTable.toList, False) : R_X11_person (JW p l e { frames := 12, cells := 0, slots := 6 * 0, locals := 243 } s m args below meth c 3 D ca ad A (vx_MQ below (Qn D ca ad A Q) (Qx D ca ad A Q) args s 0 (6 * 0) A) gz gz true) Q := ⟨s_aln C0 (d_X11_person_0) hgz (s_ic C0 (d_X11_person_1) hgz (s_pi C0 (j := 0) (c0 := 11) rfl gX11 tyX11_ok nmX11 (by decide) rfl (by decide) rfl rfl wg1201 (d_X11_person_2) hgz (s_aln C0 (d_X11_person_5) hgz (s_aln C0 (d_X11_person_6) hgz (s_iln C0 (d_X11_person_7) hgz (s_callV C0 hE (c_X11_isPerson l) wg1446 wg1443 wg1445 ws97 wg12 ⟨by decide, by decide⟩ (by decide +kernel) (c0 := 11) rfl ⟨by decide, by decide⟩ ⟨by decide, by decide⟩ (d_X11_person_8) (fun x hx => (hno x hx).elim) ⟨by decide, by decide⟩ ⟨by decide, by decide⟩ (s_zne C0 (d_X11_person_11) (by decide) hgz hgz (fun _ _ _ h => h) (s_ic C0 (d_X11_person_14) hgz (s_goto C0 (tgt := 19) (d_X11_person_15) (by decide) hgz (fun _ _ _ h => h)) (okn rfl)))))))) (okn rfl)),
  s_ic C0 (d_X11_person_18) hgz (fun _ _ _ h => h) (okn rfl),
  s_ic C0 (d_X11_person_19) hgz (s_ic C0 (d_X11_person_20) hgz (s_callV C0 hE (c_X11_bad l) wg1359 wg1356 wg1358 ws82 wg12 ⟨by decide, by decide⟩ (by decide +kernel) (c0 := 11) rfl ⟨by decide, by decide⟩ ⟨by decide, by decide⟩ (d_X11_person_21) (fun x hx => (hno x hx).elim) ⟨by decide, by decide⟩ ⟨by decide, by decide⟩ (s_zne C0 (d_X11_person_24) (by decide) hgz hgz (fun _ _ _ h => h) (s_aln C0 (d_X11_person_27) hgz (s_iln C0 (d_X11_person_28) hgz (s_ic C0 (d_X11_person_29) hgz (s_ic C0 (d_X11_person_30) hgz (s_callS C0 hE (c_X11_in l) wg1355 wg1353 wg1354 wg12 ⟨by decide, by decide⟩ (by decide +kernel) ⟨by decide, by decide⟩ ⟨by decide, by decide⟩ (d_X11_person_31) (fun x hx => (hno x hx).elim) ⟨by decide, by decide⟩ ⟨by decide, by decide⟩ (s_zne C0 (d_X11_person_34) (by decide) hgz hgz (fun _ _ _ h => h) (s_ic C0 (d_X11_person_37) hgz (s_goto C0 (tgt := 42) (d_X11_person_38) (by decide) hgz (fun _ _ _ h => h)) (okn rfl)))) (okn rfl)) (okn rfl)))))) (okn rfl)) (okn rfl),
  s_ic C0 (d_X11_person_41) hgz (fun _ _ _ h => h) (okn rfl),
  s_ic C0 (d_X11_person_42) hgz (s_ic C0 (d_X11_person_43) hgz (s_callV C0 hE (c_X11_bad l) wg1359 wg1356 wg1358 ws82 wg12 ⟨by decide, by decide⟩ (by decide +kernel) (c0 := 11) rfl ⟨by decide, by decide⟩ ⟨by decide, by decide⟩ (d_X11_person_44) (fun x hx => (hno x hx).elim) ⟨by decide, by decide⟩ ⟨by decide, by decide⟩ (s_zeq C0 (d_X11_person_47) (by decide) hgz hgz (fun _ _ _ h => h) (fun _ _ _ h => h))) (okn rfl)) (okn rfl),
  s_ic C0 (d_X11_person_50) hgz (s_ri C0 hr (d_X11_person_51) ⟨by decide, by decide⟩) (okn rfl),
  s_iln C0 (d_X11_person_52) hgz (s_ic C0 (d_X11_person_53) hgz (s_cge C0 (d_X11_person_54) (by decide) hgz hgz (fun _ _ _ h => h) (s_aln C0 (d_X11_person_57) hgz (s_gr C0 (j := 13) (c0 := 11) rfl gX11 (by decide) rfl rfl wg1214 (d_X11_person_58) hgz (s_iln C0 (d_X11_person_61) hgz (s_aa C0 (by decide) (by decide) rfl rfl (d_X11_person_62) hgz (s_iln C0 (d_X11_person_63) hgz (s_ia C0 (d_X11_person_64) hgz (s_goto C0 (tgt := 73) (d_X11_person_65) (by decide) hgz (fun _ _ _ h => h))))))))) (okn rfl)),
  s_aln C0 (d_X11_person_68) hgz (s_iln C0 (d_X11_person_69) hgz (s_callV C0 hE (c_X11_own l) wg1450 wg1447 wg1449 ws98 wg12 ⟨by decide, by decide⟩ (by decide +kernel) (c0 := 11) rfl ⟨by decide, by decide⟩ ⟨by decide, by decide⟩ (d_X11_person_70) (fun x hx => (hno x hx).elim) ⟨by decide, by decide⟩ ⟨by decide, by decide⟩ (fun _ _ _ h => h))),
  s_ri C0 hr (d_X11_person_73) ⟨by decide, by decide⟩⟩
theorem c_X11_person (l : Launch) : Ctr l yX11_person cX11_person 3 (some .int) 12 243 0 (fun sx => (nf G_X11_person)) := ctr_of (by decide) gz gz ⟨rfl, rfl⟩ (fun p e s m args below meth c D ca ad sx sy A Q as M C0 hE hr hno hF => P_X11_person (L_X11_person C0 hE hr hno) hF)
theorem d_X11_pounds_0 : decode cX11_pounds 0 = .ok (.aload_n 0, 1) := by decide +kernel
theorem d_X11_pounds_1 : decode cX11_pounds 1 = .ok (.iconst 0, 1) := by decide +kernel
theorem d_X11_pounds_2 : decode cX11_pounds 2 = .ok (.putfield 106, 3) := by decide +kernel
theorem d_X11_pounds_5 : decode cX11_pounds 5 = .ok (.aload_n 0, 1) := by decide +kernel
theorem d_X11_pounds_6 : decode cX11_pounds 6 = .ok (.aload_n 0, 1) := by decide +kernel
theorem d_X11_pounds_7 : decode cX11_pounds 7 = .ok (.iload_n 1, 1) := by decide +kernel
theorem d_X11_pounds_8 : decode cX11_pounds 8 = .ok (.invokevirtual 214, 3) := by decide +kernel
theorem d_X11_pounds_11 : decode cX11_pounds 11 = .ok (.ifCond .ne 7, 3) := by decide +kernel
theorem d_X11_pounds_14 : decode cX11_pounds 14 = .ok (.iconst 1, 1) := by decide +kernel
theorem d_X11_pounds_15 : decode cX11_pounds 15 = .ok (.goto 4, 3) := by decide +kernel
theorem d_X11_pounds_18 : decode cX11_pounds 18 = .ok (.iconst 0, 1) := by decide +kernel
theorem d_X11_pounds_19 : decode cX11_pounds 19 = .ok (.iconst 1, 1) := by decide +kernel
theorem d_X11_pounds_20 : decode cX11_pounds 20 = .ok (.iconst 0, 1) := by decide +kernel
theorem d_X11_pounds_21 : decode cX11_pounds 21 = .ok (.invokevirtual 188, 3) := by decide +kernel
theorem d_X11_pounds_24 : decode cX11_pounds 24 = .ok (.ifCond .ne 33, 3) := by decide +kernel
theorem d_X11_pounds_27 : decode cX11_pounds 27 = .ok (.aload_n 0, 1) := by decide +kernel
theorem d_X11_pounds_28 : decode cX11_pounds 28 = .ok (.iload_n 2, 1) := by decide +kernel
theorem d_X11_pounds_29 : decode cX11_pounds 29 = .ok (.invokestatic 263, 3) := by decide +kernel
theorem d_X11_pounds_32 : decode cX11_pounds 32 = .ok (.ifCond .eq 12, 3) := by decide +kernel
theorem d_X11_pounds_35 : decode cX11_pounds 35 = .ok (.iload_n 3, 1) := by decide +kernel
theorem d_X11_pounds_36 : decode cX11_pounds 36 = .ok (.iconst 0, 1) := by decide +kernel
theorem d_X11_pounds_37 : decode cX11_pounds 37 = .ok (.iconst 1, 1) := by decide +kernel
theorem d_X11_pounds_38 : decode cX11_pounds 38 = .ok (.invokestatic 140, 3) := by decide +kernel
theorem d_X11_pounds_41 : decode cX11_pounds 41 = .ok (.ifCond .ne 7, 3) := by decide +kernel
theorem d_X11_pounds_44 : decode cX11_pounds 44 = .ok (.iconst 1, 1) := by decide +kernel
theorem d_X11_pounds_45 : decode cX11_pounds 45 = .ok (.goto 4, 3) := by decide +kernel
theorem d_X11_pounds_48 : decode cX11_pounds 48 = .ok (.iconst 0, 1) := by decide +kernel
theorem d_X11_pounds_49 : decode cX11_pounds 49 = .ok (.iconst 2, 1) := by decide +kernel
theorem d_X11_pounds_50 : decode cX11_pounds 50 = .ok (.iconst 1, 1) := by decide +kernel
theorem d_X11_pounds_51 : decode cX11_pounds 51 = .ok (.invokevirtual 188, 3) := by decide +kernel
theorem d_X11_pounds_54 : decode cX11_pounds 54 = .ok (.ifCond .eq 5, 3) := by decide +kernel
theorem d_X11_pounds_57 : decode cX11_pounds 57 = .ok (.iconst 0, 1) := by decide +kernel
theorem d_X11_pounds_58 : decode cX11_pounds 58 = .ok (.ireturn, 1) := by decide +kernel
theorem d_X11_pounds_59 : decode cX11_pounds 59 = .ok (.aload_n 0, 1) := by decide +kernel
theorem d_X11_pounds_60 : decode cX11_pounds 60 = .ok (.ldc_w 259, 3) := by decide +kernel
theorem d_X11_pounds_63 : decode cX11_pounds 63 = .ok (.putfield 229, 3) := by decide +kernel
theorem d_X11_pounds_66 : decode cX11_pounds 66 = .ok (.aload_n 0, 1) := by decide +kernel
theorem d_X11_pounds_67 : decode cX11_pounds 67 = .ok (.iload_n 2, 1) := by decide +kernel
theorem d_X11_pounds_68 : decode cX11_pounds 68 = .ok (.invokevirtual 260, 3) := by decide +kernel
theorem d_X11_pounds_71 : decode cX11_pounds 71 = .ok (.iload_n 3, 1) := by decide +kernel
theorem d_X11_pounds_72 : decode cX11_pounds 72 = .ok (.ifCond .ne 12, 3) := by decide +kernel
theorem d_X11_pounds_75 : decode cX11_pounds 75 = .ok (.aload_n 0, 1) := by decide +kernel
theorem d_X11_pounds_76 : decode cX11_pounds 76 = .ok (.getfield 79, 3) := by decide +kernel
theorem d_X11_pounds_79 : decode cX11_pounds 79 = .ok (.iload_n 1, 1) := by decide +kernel
theorem d_X11_pounds_80 : decode cX11_pounds 80 = .ok (.iaload, 1) := by decide +kernel
theorem d_X11_pounds_81 : decode cX11_pounds 81 = .ok (.goto 9, 3) := by decide +kernel
theorem d_X11_pounds_84 : decode cX11_pounds 84 = .ok (.aload_n 0, 1) := by decide +kernel
theorem d_X11_pounds_85 : decode cX11_pounds 85 = .ok (.getfield 73, 3) := by decide +kernel
theorem d_X11_pounds_88 : decode cX11_pounds 88 = .ok (.iload_n 1, 1) := by decide +kernel
theorem d_X11_pounds_89 : decode cX11_pounds 89 = .ok (.iaload, 1) := by decide +kernel
theorem d_X11_pounds_90 : decode cX11_pounds 90 = .ok (.ireturn, 1) := by decide +kernel
set_option maxRecDepth 100000 in
theorem L_X11_pounds {p : Program} {l : Launch} {e : Env} {s : State} {m : MethodId} {args : Array Value} {below : List Frame} {meth : Method} {c : Code} {D : va_G} {ca : Nat → ClassId} {ad sx sy : Nat → Nat} {A : Nat → Prop} {Q : QT} (C0 : CX p s m args meth c cX11_pounds 4 yX11_pounds.cls D ca ad A) (hE : EX sx sy A s s.heap) (hr : meth.sig.returnType = (some .int)) (hno : ∀ x ∈ c.exceptionTable.toList, False) : R_X11_pounds (JW p l e { frames := 14, cells := 0, slots := 6 * 0, locals := 292 } s m args below meth c 4 D ca ad A (vx_MQ below (Qn D ca ad A Q) (Qx D ca ad A Q) args s 0 (6 * 0) A) gz gz true) Q := ⟨s_aln C0 (d_X11_pounds_0) hgz (s_ic C0 (d_X11_pounds_1) hgz (s_pi C0 (j := 0) (c0 := 11) rfl gX11 tyX11_ok nmX11 (by decide) rfl (by decide) rfl rfl wg1201 (d_X11_pounds_2) hgz (s_aln C0 (d_X11_pounds_5) hgz (s_aln C0 (d_X11_pounds_6) hgz (s_iln C0 (d_X11_pounds_7) hgz (s_callV C0 hE (c_X11_isPerson l) wg1446 wg1443 wg1445 ws97 wg12 ⟨by decide, by decide⟩ (by decide +kernel) (c0 := 11) rfl ⟨by decide, by decide⟩ ⟨by decide, by decide⟩ (d_X11_pounds_8) (fun x hx => (hno x hx).elim) ⟨by decide, by decide⟩ ⟨by decide, by decide⟩ (s_zne C0 (d_X11_pounds_11) (by decide) hgz hgz (fun _ _ _ h => h) (s_ic C0 (d_X11_pounds_14) hgz (s_goto C0 (tgt := 19) (d_X11_pounds_15) (by decide) hgz (fun _ _ _ h => h)) (okn rfl)))))))) (okn rfl)),
  s_ic C0 (d_X11_pounds_18) hgz (fun _ _ _ h => h) (okn rfl),
  s_ic C0 (d_X11_pounds_19) hgz (s_ic C0 (d_X11_pounds_20) hgz (s_callV C0 hE (c_X11_bad l) wg1359 wg1356 wg1358 ws82 wg12 ⟨by decide, by decide⟩ (by decide +kernel) (c0 := 11) rfl ⟨by decide, by decide⟩ ⟨by decide, by decide⟩ (d_X11_pounds_21) (fun x hx => (hno x hx).elim) ⟨by decide, by decide⟩ ⟨by decide, by decide⟩ (s_zne C0 (d_X11_pounds_24) (by decide) hgz hgz (fun _ _ _ h => h) (s_aln C0 (d_X11_pounds_27) hgz (s_iln C0 (d_X11_pounds_28) hgz (s_callS C0 hE (c_X11_isMinute l) wg1472 wg1470 wg1471 wg12 ⟨by decide, by decide⟩ (by decide +kernel) ⟨by decide, by decide⟩ ⟨by decide, by decide⟩ (d_X11_pounds_29) (fun x hx => (hno x hx).elim) ⟨by decide, by decide⟩ ⟨by decide, by decide⟩ (s_zeq C0 (d_X11_pounds_32) (by decide) hgz hgz (fun _ _ _ h => h) (s_iln C0 (d_X11_pounds_35) hgz (s_ic C0 (d_X11_pounds_36) hgz (s_ic C0 (d_X11_pounds_37) hgz (s_callS C0 hE (c_X11_in l) wg1355 wg1353 wg1354 wg12 ⟨by decide, by decide⟩ (by decide +kernel) ⟨by decide, by decide⟩ ⟨by decide, by decide⟩ (d_X11_pounds_38) (fun x hx => (hno x hx).elim) ⟨by decide, by decide⟩ ⟨by decide, by decide⟩ (s_zne C0 (d_X11_pounds_41) (by decide) hgz hgz (fun _ _ _ h => h) (fun _ _ _ h => h))) (okn rfl)) (okn rfl))))))))) (okn rfl)) (okn rfl),
  s_ic C0 (d_X11_pounds_44) hgz (s_goto C0 (tgt := 49) (d_X11_pounds_45) (by decide) hgz (fun _ _ _ h => h)) (okn rfl),
  s_ic C0 (d_X11_pounds_48) hgz (fun _ _ _ h => h) (okn rfl),
  s_ic C0 (d_X11_pounds_49) hgz (s_ic C0 (d_X11_pounds_50) hgz (s_callV C0 hE (c_X11_bad l) wg1359 wg1356 wg1358 ws82 wg12 ⟨by decide, by decide⟩ (by decide +kernel) (c0 := 11) rfl ⟨by decide, by decide⟩ ⟨by decide, by decide⟩ (d_X11_pounds_51) (fun x hx => (hno x hx).elim) ⟨by decide, by decide⟩ ⟨by decide, by decide⟩ (s_zeq C0 (d_X11_pounds_54) (by decide) hgz hgz (fun _ _ _ h => h) (fun _ _ _ h => h))) (okn rfl)) (okn rfl),
  s_ic C0 (d_X11_pounds_57) hgz (s_ri C0 hr (d_X11_pounds_58) ⟨by decide, by decide⟩) (okn rfl),
  s_aln C0 (d_X11_pounds_59) hgz (s_ldcw C0 (n := 1000000) wg1473 (d_X11_pounds_60) hgz (s_pi C0 (j := 36) (c0 := 11) rfl gX11 tyX11_ok nmX11 (by decide) rfl (by decide) rfl rfl wg1237 (d_X11_pounds_63) hgz (s_aln C0 (d_X11_pounds_66) hgz (s_iln C0 (d_X11_pounds_67) hgz (s_callV C0 hE (c_X11_goes l) wg1477 wg1474 wg1476 ws101 wg12 ⟨by decide, by decide⟩ (by decide +kernel) (c0 := 11) rfl ⟨by decide, by decide⟩ ⟨by decide, by decide⟩ (d_X11_pounds_68) (fun x hx => (hno x hx).elim) ⟨by decide, by decide⟩ ⟨by decide, by decide⟩ (s_iln C0 (d_X11_pounds_71) hgz (s_zne C0 (d_X11_pounds_72) (by decide) hgz hgz (fun _ _ _ h => h) (s_aln C0 (d_X11_pounds_75) hgz (s_gr C0 (j := 33) (c0 := 11) rfl gX11 (by decide) rfl rfl wg1234 (d_X11_pounds_76) hgz (s_iln C0 (d_X11_pounds_79) hgz (s_ia C0 (d_X11_pounds_80) hgz (s_goto C0 (tgt := 90) (d_X11_pounds_81) (by decide) hgz (fun _ _ _ h => h)))))))))))) (okn rfl)),
  s_aln C0 (d_X11_pounds_84) hgz (s_gr C0 (j := 31) (c0 := 11) rfl gX11 (by decide) rfl rfl wg1232 (d_X11_pounds_85) hgz (s_iln C0 (d_X11_pounds_88) hgz (s_ia C0 (d_X11_pounds_89) hgz (fun _ _ _ h => h)))),
  s_ri C0 hr (d_X11_pounds_90) ⟨by decide, by decide⟩⟩
theorem c_X11_pounds (l : Launch) : Ctr l yX11_pounds cX11_pounds 4 (some .int) 14 292 0 (fun sx => (nf G_X11_pounds)) := ctr_of (by decide) gz gz ⟨rfl, rfl⟩ (fun p e s m args below meth c D ca ad sx sy A Q as M C0 hE hr hno hF => P_X11_pounds (L_X11_pounds C0 hE hr hno) hF)
theorem d_X11_powerOf_0 : decode cX11_powerOf 0 = .ok (.iconst 0, 1) := by decide +kernel
theorem d_X11_powerOf_1 : decode cX11_powerOf 1 = .ok (.istore_n 2, 1) := by decide +kernel
theorem d_X11_powerOf_2 : decode cX11_powerOf 2 = .ok (.aload_n 0, 1) := by decide +kernel
theorem d_X11_powerOf_3 : decode cX11_powerOf 3 = .ok (.invokevirtual 290, 3) := by decide +kernel
theorem d_X11_powerOf_6 : decode cX11_powerOf 6 = .ok (.istore_n 3, 1) := by decide +kernel
theorem d_X11_powerOf_7 : decode cX11_powerOf 7 = .ok (.aload_n 0, 1) := by decide +kernel
theorem d_X11_powerOf_8 : decode cX11_powerOf 8 = .ok (.iload_n 1, 1) := by decide +kernel
theorem d_X11_powerOf_9 : decode cX11_powerOf 9 = .ok (.invokevirtual 217, 3) := by decide +kernel
theorem d_X11_powerOf_12 : decode cX11_powerOf 12 = .ok (.istore 4, 2) := by decide +kernel
theorem d_X11_powerOf_14 : decode cX11_powerOf 14 = .ok (.iconst 0, 1) := by decide +kernel
theorem d_X11_powerOf_15 : decode cX11_powerOf 15 = .ok (.istore 5, 2) := by decide +kernel
theorem d_X11_powerOf_17 : decode cX11_powerOf 17 = .ok (.iload 5, 2) := by decide +kernel
theorem d_X11_powerOf_19 : decode cX11_powerOf 19 = .ok (.iconst 1, 1) := by decide +kernel
theorem d_X11_powerOf_20 : decode cX11_powerOf 20 = .ok (.aload_n 0, 1) := by decide +kernel
theorem d_X11_powerOf_21 : decode cX11_powerOf 21 = .ok (.getfield 23, 3) := by decide +kernel
theorem d_X11_powerOf_24 : decode cX11_powerOf 24 = .ok (.iconst 0, 1) := by decide +kernel
theorem d_X11_powerOf_25 : decode cX11_powerOf 25 = .ok (.iaload, 1) := by decide +kernel
theorem d_X11_powerOf_26 : decode cX11_powerOf 26 = .ok (.ishl, 1) := by decide +kernel
theorem d_X11_powerOf_27 : decode cX11_powerOf 27 = .ok (.if_icmp .ge 108, 3) := by decide +kernel
theorem d_X11_powerOf_30 : decode cX11_powerOf 30 = .ok (.iload 5, 2) := by decide +kernel
theorem d_X11_powerOf_32 : decode cX11_powerOf 32 = .ok (.iload_n 1, 1) := by decide +kernel
theorem d_X11_powerOf_33 : decode cX11_powerOf 33 = .ok (.ishr, 1) := by decide +kernel
theorem d_X11_powerOf_34 : decode cX11_powerOf 34 = .ok (.iconst 1, 1) := by decide +kernel
theorem d_X11_powerOf_35 : decode cX11_powerOf 35 = .ok (.iand, 1) := by decide +kernel
theorem d_X11_powerOf_36 : decode cX11_powerOf 36 = .ok (.iconst 1, 1) := by decide +kernel
theorem d_X11_powerOf_37 : decode cX11_powerOf 37 = .ok (.if_icmp .ne 6, 3) := by decide +kernel
theorem d_X11_powerOf_40 : decode cX11_powerOf 40 = .ok (.goto 89, 3) := by decide +kernel
theorem d_X11_powerOf_43 : decode cX11_powerOf 43 = .ok (.iconst 0, 1) := by decide +kernel
theorem d_X11_powerOf_44 : decode cX11_powerOf 44 = .ok (.istore 6, 2) := by decide +kernel
theorem d_X11_powerOf_46 : decode cX11_powerOf 46 = .ok (.iconst 0, 1) := by decide +kernel
theorem d_X11_powerOf_47 : decode cX11_powerOf 47 = .ok (.istore 7, 2) := by decide +kernel
theorem d_X11_powerOf_49 : decode cX11_powerOf 49 = .ok (.iload 7, 2) := by decide +kernel
theorem d_X11_powerOf_51 : decode cX11_powerOf 51 = .ok (.aload_n 0, 1) := by decide +kernel
theorem d_X11_powerOf_52 : decode cX11_powerOf 52 = .ok (.getfield 23, 3) := by decide +kernel
theorem d_X11_powerOf_55 : decode cX11_powerOf 55 = .ok (.iconst 1, 1) := by decide +kernel
theorem d_X11_powerOf_56 : decode cX11_powerOf 56 = .ok (.iaload, 1) := by decide +kernel
theorem d_X11_powerOf_57 : decode cX11_powerOf 57 = .ok (.if_icmp .ge 45, 3) := by decide +kernel
theorem d_X11_powerOf_60 : decode cX11_powerOf 60 = .ok (.iload 6, 2) := by decide +kernel
theorem d_X11_powerOf_62 : decode cX11_powerOf 62 = .ok (.iload 5, 2) := by decide +kernel
theorem d_X11_powerOf_64 : decode cX11_powerOf 64 = .ok (.aload_n 0, 1) := by decide +kernel
theorem d_X11_powerOf_65 : decode cX11_powerOf 65 = .ok (.getfield 37, 3) := by decide +kernel
theorem d_X11_powerOf_68 : decode cX11_powerOf 68 = .ok (.iload 7, 2) := by decide +kernel
theorem d_X11_powerOf_70 : decode cX11_powerOf 70 = .ok (.aaload, 1) := by decide +kernel
theorem d_X11_powerOf_71 : decode cX11_powerOf 71 = .ok (.iconst 0, 1) := by decide +kernel
theorem d_X11_powerOf_72 : decode cX11_powerOf 72 = .ok (.iaload, 1) := by decide +kernel
theorem d_X11_powerOf_73 : decode cX11_powerOf 73 = .ok (.ishr, 1) := by decide +kernel
theorem d_X11_powerOf_74 : decode cX11_powerOf 74 = .ok (.iconst 1, 1) := by decide +kernel
theorem d_X11_powerOf_75 : decode cX11_powerOf 75 = .ok (.iand, 1) := by decide +kernel
theorem d_X11_powerOf_76 : decode cX11_powerOf 76 = .ok (.iconst 1, 1) := by decide +kernel
theorem d_X11_powerOf_77 : decode cX11_powerOf 77 = .ok (.if_icmp .ne 15, 3) := by decide +kernel
theorem d_X11_powerOf_80 : decode cX11_powerOf 80 = .ok (.aload_n 0, 1) := by decide +kernel
theorem d_X11_powerOf_81 : decode cX11_powerOf 81 = .ok (.getfield 37, 3) := by decide +kernel
theorem d_X11_powerOf_84 : decode cX11_powerOf 84 = .ok (.iload 7, 2) := by decide +kernel
theorem d_X11_powerOf_86 : decode cX11_powerOf 86 = .ok (.aaload, 1) := by decide +kernel
theorem d_X11_powerOf_87 : decode cX11_powerOf 87 = .ok (.iconst 1, 1) := by decide +kernel
theorem d_X11_powerOf_88 : decode cX11_powerOf 88 = .ok (.iaload, 1) := by decide +kernel
theorem d_X11_powerOf_89 : decode cX11_powerOf 89 = .ok (.goto 4, 3) := by decide +kernel
theorem d_X11_powerOf_92 : decode cX11_powerOf 92 = .ok (.iconst 0, 1) := by decide +kernel
theorem d_X11_powerOf_93 : decode cX11_powerOf 93 = .ok (.iadd, 1) := by decide +kernel
theorem d_X11_powerOf_94 : decode cX11_powerOf 94 = .ok (.istore 6, 2) := by decide +kernel
theorem d_X11_powerOf_96 : decode cX11_powerOf 96 = .ok (.iinc 7 1, 3) := by decide +kernel
theorem d_X11_powerOf_99 : decode cX11_powerOf 99 = .ok (.goto (-50), 3) := by decide +kernel
theorem d_X11_powerOf_102 : decode cX11_powerOf 102 = .ok (.iload_n 2, 1) := by decide +kernel
theorem d_X11_powerOf_103 : decode cX11_powerOf 103 = .ok (.iconst 2, 1) := by decide +kernel
theorem d_X11_powerOf_104 : decode cX11_powerOf 104 = .ok (.iload 6, 2) := by decide +kernel
theorem d_X11_powerOf_106 : decode cX11_powerOf 106 = .ok (.imul, 1) := by decide +kernel
theorem d_X11_powerOf_107 : decode cX11_powerOf 107 = .ok (.iload_n 3, 1) := by decide +kernel
theorem d_X11_powerOf_108 : decode cX11_powerOf 108 = .ok (.if_icmp .gt 18, 3) := by decide +kernel
theorem d_X11_powerOf_111 : decode cX11_powerOf 111 = .ok (.iconst 2, 1) := by decide +kernel
theorem d_X11_powerOf_112 : decode cX11_powerOf 112 = .ok (.iload 6, 2) := by decide +kernel
theorem d_X11_powerOf_114 : decode cX11_powerOf 114 = .ok (.iload 4, 2) := by decide +kernel
theorem d_X11_powerOf_116 : decode cX11_powerOf 116 = .ok (.iadd, 1) := by decide +kernel
theorem d_X11_powerOf_117 : decode cX11_powerOf 117 = .ok (.imul, 1) := by decide +kernel
theorem d_X11_powerOf_118 : decode cX11_powerOf 118 = .ok (.iload_n 3, 1) := by decide +kernel
theorem d_X11_powerOf_119 : decode cX11_powerOf 119 = .ok (.if_icmp .le 7, 3) := by decide +kernel
theorem d_X11_powerOf_122 : decode cX11_powerOf 122 = .ok (.iconst 1, 1) := by decide +kernel
theorem d_X11_powerOf_123 : decode cX11_powerOf 123 = .ok (.goto 4, 3) := by decide +kernel
theorem d_X11_powerOf_126 : decode cX11_powerOf 126 = .ok (.iconst 0, 1) := by decide +kernel
theorem d_X11_powerOf_127 : decode cX11_powerOf 127 = .ok (.iadd, 1) := by decide +kernel
theorem d_X11_powerOf_128 : decode cX11_powerOf 128 = .ok (.istore_n 2, 1) := by decide +kernel
theorem d_X11_powerOf_129 : decode cX11_powerOf 129 = .ok (.iinc 5 1, 3) := by decide +kernel
theorem d_X11_powerOf_132 : decode cX11_powerOf 132 = .ok (.goto (-115), 3) := by decide +kernel
theorem d_X11_powerOf_135 : decode cX11_powerOf 135 = .ok (.iload_n 2, 1) := by decide +kernel
theorem d_X11_powerOf_136 : decode cX11_powerOf 136 = .ok (.ireturn, 1) := by decide +kernel
set_option maxRecDepth 100000 in
theorem L_X11_powerOf {p : Program} {l : Launch} {e : Env} {s : State} {m : MethodId} {args : Array Value} {below : List Frame} {meth : Method} {c : Code} {D : va_G} {ca : Nat → ClassId} {ad sx sy : Nat → Nat} {A : Nat → Prop} {Q : QT} (C0 : CX p s m args meth c cX11_powerOf 8 yX11_powerOf.cls D ca ad A) (hE : EX sx sy A s s.heap) (hr : meth.sig.returnType = (some .int)) (hno : ∀ x ∈ c.exceptionTable.toList, False) : R_X11_powerOf (JW p l e { frames := 11, cells := 0, slots := 6 * 0, locals := 223 } s m args below meth c 8 D ca ad A (vx_MQ below (Qn D ca ad A Q) (Qx D ca ad A Q) args s 0 (6 * 0) A) gz gz true) Q := ⟨s_ic C0 (d_X11_powerOf_0) hgz (s_isn C0 (d_X11_powerOf_1) hgz (s_aln C0 (d_X11_powerOf_2) hgz (s_callV C0 hE (c_X11_all l) wg1574 wg1571 wg1573 ws114 wg12 ⟨by decide, by decide⟩ (by decide +kernel) (c0 := 11) rfl ⟨by decide, by decide⟩ ⟨by decide, by decide⟩ (d_X11_powerOf_3) (fun x hx => (hno x hx).elim) ⟨by decide, by decide⟩ ⟨by decide, by decide⟩ (s_isn C0 (d_X11_powerOf_6) hgz (s_aln C0 (d_X11_powerOf_7) hgz (s_iln C0 (d_X11_powerOf_8) hgz (s_callV C0 hE (c_X11_own l) wg1450 wg1447 wg1449 ws98 wg12 ⟨by decide, by decide⟩ (by decide +kernel) (c0 := 11) rfl ⟨by decide, by decide⟩ ⟨by decide, by decide⟩ (d_X11_powerOf_9) (fun x hx => (hno x hx).elim) ⟨by decide, by decide⟩ ⟨by decide, by decide⟩ (s_is C0 (d_X11_powerOf_12) hgz (s_ic C0 (d_X11_powerOf_14) hgz (s_is C0 (d_X11_powerOf_15) hgz (fun _ _ _ h => h)) (okn rfl)))))))))) (okn rfl),
  s_il C0 (d_X11_powerOf_17) hgz (s_ic C0 (d_X11_powerOf_19) hgz (s_aln C0 (d_X11_powerOf_20) hgz (s_gr C0 (j := 11) (c0 := 11) rfl gX11 (by decide) rfl rfl wg1212 (d_X11_powerOf_21) hgz (s_ic C0 (d_X11_powerOf_24) hgz (s_ia C0 (d_X11_powerOf_25) hgz (s_shl C0 (d_X11_powerOf_26) hgz (s_cge C0 (d_X11_powerOf_27) (by decide) hgz hgz (fun _ _ _ h => h) (s_il C0 (d_X11_powerOf_30) hgz (s_iln C0 (d_X11_powerOf_32) hgz (s_shr C0 (d_X11_powerOf_33) hgz (s_ic C0 (d_X11_powerOf_34) hgz (s_and C0 (d_X11_powerOf_35) hgz (s_ic C0 (d_X11_powerOf_36) hgz (s_cne C0 (d_X11_powerOf_37) (by decide) hgz hgz (fun _ _ _ h => h) (s_goto C0 (tgt := 129) (d_X11_powerOf_40) (by decide) hgz (fun _ _ _ h => h))) (okn rfl))) (okn rfl)))))))) (okn rfl)))) (okn rfl)),
  s_ic C0 (d_X11_powerOf_43) hgz (s_is C0 (d_X11_powerOf_44) hgz (s_ic C0 (d_X11_powerOf_46) hgz (s_is C0 (d_X11_powerOf_47) hgz (fun _ _ _ h => h)) (okn rfl))) (okn rfl),
  s_il C0 (d_X11_powerOf_49) hgz (s_aln C0 (d_X11_powerOf_51) hgz (s_gr C0 (j := 11) (c0 := 11) rfl gX11 (by decide) rfl rfl wg1212 (d_X11_powerOf_52) hgz (s_ic C0 (d_X11_powerOf_55) hgz (s_ia C0 (d_X11_powerOf_56) hgz (s_cge C0 (d_X11_powerOf_57) (by decide) hgz hgz (fun _ _ _ h => h) (s_il C0 (d_X11_powerOf_60) hgz (s_il C0 (d_X11_powerOf_62) hgz (s_aln C0 (d_X11_powerOf_64) hgz (s_gr C0 (j := 15) (c0 := 11) rfl gX11 (by decide) rfl rfl wg1216 (d_X11_powerOf_65) hgz (s_il C0 (d_X11_powerOf_68) hgz (s_aa C0 (by decide) (by decide) rfl rfl (d_X11_powerOf_70) hgz (s_ic C0 (d_X11_powerOf_71) hgz (s_ia C0 (d_X11_powerOf_72) hgz (s_shr C0 (d_X11_powerOf_73) hgz (s_ic C0 (d_X11_powerOf_74) hgz (s_and C0 (d_X11_powerOf_75) hgz (s_ic C0 (d_X11_powerOf_76) hgz (s_cne C0 (d_X11_powerOf_77) (by decide) hgz hgz (fun _ _ _ h => h) (s_aln C0 (d_X11_powerOf_80) hgz (s_gr C0 (j := 15) (c0 := 11) rfl gX11 (by decide) rfl rfl wg1216 (d_X11_powerOf_81) hgz (s_il C0 (d_X11_powerOf_84) hgz (s_aa C0 (by decide) (by decide) rfl rfl (d_X11_powerOf_86) hgz (s_ic C0 (d_X11_powerOf_87) hgz (s_ia C0 (d_X11_powerOf_88) hgz (s_goto C0 (tgt := 93) (d_X11_powerOf_89) (by decide) hgz (fun _ _ _ h => h))) (okn rfl))))))) (okn rfl))) (okn rfl)))) (okn rfl)))))))))) (okn rfl)))),
  s_ic C0 (d_X11_powerOf_92) hgz (fun _ _ _ h => h) (okn rfl),
  s_add C0 (d_X11_powerOf_93) hgz (s_is C0 (d_X11_powerOf_94) hgz (s_inc C0 (d_X11_powerOf_96) hgz (s_goto C0 (tgt := 49) (d_X11_powerOf_99) (by decide) hgz (fun _ _ _ h => h)))),
  s_iln C0 (d_X11_powerOf_102) hgz (s_ic C0 (d_X11_powerOf_103) hgz (s_il C0 (d_X11_powerOf_104) hgz (s_mul C0 (d_X11_powerOf_106) hgz (s_iln C0 (d_X11_powerOf_107) hgz (s_cgt C0 (d_X11_powerOf_108) (by decide) hgz hgz (fun _ _ _ h => h) (s_ic C0 (d_X11_powerOf_111) hgz (s_il C0 (d_X11_powerOf_112) hgz (s_il C0 (d_X11_powerOf_114) hgz (s_add C0 (d_X11_powerOf_116) hgz (s_mul C0 (d_X11_powerOf_117) hgz (s_iln C0 (d_X11_powerOf_118) hgz (s_cle C0 (d_X11_powerOf_119) (by decide) hgz hgz (fun _ _ _ h => h) (s_ic C0 (d_X11_powerOf_122) hgz (s_goto C0 (tgt := 127) (d_X11_powerOf_123) (by decide) hgz (fun _ _ _ h => h)) (okn rfl)))))))) (okn rfl)))))) (okn rfl)),
  s_ic C0 (d_X11_powerOf_126) hgz (fun _ _ _ h => h) (okn rfl),
  s_add C0 (d_X11_powerOf_127) hgz (s_isn C0 (d_X11_powerOf_128) hgz (fun _ _ _ h => h)),
  s_inc C0 (d_X11_powerOf_129) hgz (s_goto C0 (tgt := 17) (d_X11_powerOf_132) (by decide) hgz (fun _ _ _ h => h)),
  s_iln C0 (d_X11_powerOf_135) hgz (s_ri C0 hr (d_X11_powerOf_136) ⟨by decide, by decide⟩)⟩
theorem c_X11_powerOf (l : Launch) : Ctr l yX11_powerOf cX11_powerOf 8 (some .int) 11 223 0 (fun sx => (nf G_X11_powerOf)) := ctr_of (by decide) gz gz ⟨rfl, rfl⟩ (fun p e s m args below meth c D ca ad sx sy A Q as M C0 hE hr hno hF => P_X11_powerOf (L_X11_powerOf C0 hE hr hno) hF)
theorem wg1570 : Cond.code ⟨"WeighedHallModel", "powerOf", "(I)I"⟩ prog_13_method_59_code 8 (Option.some .int) ∈ GT := gt_mem 1690 (by decide +kernel) rfl
theorem wg1567 : Cond.methodLink "WeighedHallModel" 293 ⟨"WeighedHallModel", "powerOf", "(I)I"⟩ ∈ GT := gt_mem 1687 (by decide +kernel) rfl
theorem wg1569 : Cond.instanceMethod ⟨"WeighedHallModel", "powerOf", "(I)I"⟩ ∈ GT := gt_mem 1689 (by decide +kernel) rfl
theorem ws113 : Cond.selects "WeighedHallModel" ⟨"WeighedHallModel", "powerOf", "(I)I"⟩ ⟨"WeighedHallModel", "powerOf", "(I)I"⟩ ∈ GT := gt_mem 113 (by decide +kernel) rfl
theorem d_X11_power_0 : decode cX11_power 0 = .ok (.aload_n 0, 1) := by decide +kernel
theorem d_X11_power_1 : decode cX11_power 1 = .ok (.iconst 0, 1) := by decide +kernel
theorem d_X11_power_2 : decode cX11_power 2 = .ok (.putfield 106, 3) := by decide +kernel
theorem d_X11_power_5 : decode cX11_power 5 = .ok (.aload_n 0, 1) := by decide +kernel
theorem d_X11_power_6 : decode cX11_power 6 = .ok (.aload_n 0, 1) := by decide +kernel
theorem d_X11_power_7 : decode cX11_power 7 = .ok (.iload_n 1, 1) := by decide +kernel
theorem d_X11_power_8 : decode cX11_power 8 = .ok (.invokevirtual 214, 3) := by decide +kernel
theorem d_X11_power_11 : decode cX11_power 11 = .ok (.ifCond .ne 7, 3) := by decide +kernel
theorem d_X11_power_14 : decode cX11_power 14 = .ok (.iconst 1, 1) := by decide +kernel
theorem d_X11_power_15 : decode cX11_power 15 = .ok (.goto 4, 3) := by decide +kernel
theorem d_X11_power_18 : decode cX11_power 18 = .ok (.iconst 0, 1) := by decide +kernel
theorem d_X11_power_19 : decode cX11_power 19 = .ok (.iconst 1, 1) := by decide +kernel
theorem d_X11_power_20 : decode cX11_power 20 = .ok (.iconst 0, 1) := by decide +kernel
theorem d_X11_power_21 : decode cX11_power 21 = .ok (.invokevirtual 188, 3) := by decide +kernel
theorem d_X11_power_24 : decode cX11_power 24 = .ok (.ifCond .eq 5, 3) := by decide +kernel
theorem d_X11_power_27 : decode cX11_power 27 = .ok (.iconst 0, 1) := by decide +kernel
theorem d_X11_power_28 : decode cX11_power 28 = .ok (.ireturn, 1) := by decide +kernel
theorem d_X11_power_29 : decode cX11_power 29 = .ok (.aload_n 0, 1) := by decide +kernel
theorem d_X11_power_30 : decode cX11_power 30 = .ok (.iload_n 1, 1) := by decide +kernel
theorem d_X11_power_31 : decode cX11_power 31 = .ok (.invokevirtual 293, 3) := by decide +kernel
theorem d_X11_power_34 : decode cX11_power 34 = .ok (.ireturn, 1) := by decide +kernel
set_option maxRecDepth 100000 in
theorem L_X11_power {p : Program} {l : Launch} {e : Env} {s : State} {m : MethodId} {args : Array Value} {below : List Frame} {meth : Method} {c : Code} {D : va_G} {ca : Nat → ClassId} {ad sx sy : Nat → Nat} {A : Nat → Prop} {Q : QT} (C0 : CX p s m args meth c cX11_power 2 yX11_power.cls D ca ad A) (hE : EX sx sy A s s.heap) (hr : meth.sig.returnType = (some .int)) (hno : ∀ x ∈ c.exceptionTable.toList, False) : R_X11_power (JW p l e { frames := 12, cells := 0, slots := 6 * 0, locals := 250 } s m args below meth c 2 D ca ad A (vx_MQ below (Qn D ca ad A Q) (Qx D ca ad A Q) args s 0 (6 * 0) A) gz gz true) Q := ⟨s_aln C0 (d_X11_power_0) hgz (s_ic C0 (d_X11_power_1) hgz (s_pi C0 (j := 0) (c0 := 11) rfl gX11 tyX11_ok nmX11 (by decide) rfl (by decide) rfl rfl wg1201 (d_X11_power_2) hgz (s_aln C0 (d_X11_power_5) hgz (s_aln C0 (d_X11_power_6) hgz (s_iln C0 (d_X11_power_7) hgz (s_callV C0 hE (c_X11_isPerson l) wg1446 wg1443 wg1445 ws97 wg12 ⟨by decide, by decide⟩ (by decide +kernel) (c0 := 11) rfl ⟨by decide, by decide⟩ ⟨by decide, by decide⟩ (d_X11_power_8) (fun x hx => (hno x hx).elim) ⟨by decide, by decide⟩ ⟨by decide, by decide⟩ (s_zne C0 (d_X11_power_11) (by decide) hgz hgz (fun _ _ _ h => h) (s_ic C0 (d_X11_power_14) hgz (s_goto C0 (tgt := 19) (d_X11_power_15) (by decide) hgz (fun _ _ _ h => h)) (okn rfl)))))))) (okn rfl)),
  s_ic C0 (d_X11_power_18) hgz (fun _ _ _ h => h) (okn rfl),
  s_ic C0 (d_X11_power_19) hgz (s_ic C0 (d_X11_power_20) hgz (s_callV C0 hE (c_X11_bad l) wg1359 wg1356 wg1358 ws82 wg12 ⟨by decide, by decide⟩ (by decide +kernel) (c0 := 11) rfl ⟨by decide, by decide⟩ ⟨by decide, by decide⟩ (d_X11_power_21) (fun x hx => (hno x hx).elim) ⟨by decide, by decide⟩ ⟨by decide, by decide⟩ (s_zeq C0 (d_X11_power_24) (by decide) hgz hgz (fun _ _ _ h => h) (s_ic C0 (d_X11_power_27) hgz (s_ri C0 hr (d_X11_power_28) ⟨by decide, by decide⟩) (okn rfl)))) (okn rfl)) (okn rfl),
  s_aln C0 (d_X11_power_29) hgz (s_iln C0 (d_X11_power_30) hgz (s_callV C0 hE (c_X11_powerOf l) wg1570 wg1567 wg1569 ws113 wg12 ⟨by decide, by decide⟩ (by decide +kernel) (c0 := 11) rfl ⟨by decide, by decide⟩ ⟨by decide, by decide⟩ (d_X11_power_31) (fun x hx => (hno x hx).elim) ⟨by decide, by decide⟩ ⟨by decide, by decide⟩ (s_ri C0 hr (d_X11_power_34) ⟨by decide, by decide⟩)))⟩
theorem c_X11_power (l : Launch) : Ctr l yX11_power cX11_power 2 (some .int) 12 250 0 (fun sx => (nf G_X11_power)) := ctr_of (by decide) gz gz ⟨rfl, rfl⟩ (fun p e s m args below meth c D ca ad sx sy A Q as M C0 hE hr hno hF => P_X11_power (L_X11_power C0 hE hr hno) hF)
theorem d_X11_powers_0 : decode cX11_powers 0 = .ok (.aload_n 0, 1) := by decide +kernel
theorem d_X11_powers_1 : decode cX11_powers 1 = .ok (.iconst 0, 1) := by decide +kernel
theorem d_X11_powers_2 : decode cX11_powers 2 = .ok (.putfield 106, 3) := by decide +kernel
theorem d_X11_powers_5 : decode cX11_powers 5 = .ok (.iconst 0, 1) := by decide +kernel
theorem d_X11_powers_6 : decode cX11_powers 6 = .ok (.istore_n 1, 1) := by decide +kernel
theorem d_X11_powers_7 : decode cX11_powers 7 = .ok (.iconst 0, 1) := by decide +kernel
theorem d_X11_powers_8 : decode cX11_powers 8 = .ok (.istore_n 2, 1) := by decide +kernel
theorem d_X11_powers_9 : decode cX11_powers 9 = .ok (.iload_n 2, 1) := by decide +kernel
theorem d_X11_powers_10 : decode cX11_powers 10 = .ok (.aload_n 0, 1) := by decide +kernel
theorem d_X11_powers_11 : decode cX11_powers 11 = .ok (.getfield 23, 3) := by decide +kernel
theorem d_X11_powers_14 : decode cX11_powers 14 = .ok (.iconst 0, 1) := by decide +kernel
theorem d_X11_powers_15 : decode cX11_powers 15 = .ok (.iaload, 1) := by decide +kernel
theorem d_X11_powers_16 : decode cX11_powers 16 = .ok (.if_icmp .ge 17, 3) := by decide +kernel
theorem d_X11_powers_19 : decode cX11_powers 19 = .ok (.iload_n 1, 1) := by decide +kernel
theorem d_X11_powers_20 : decode cX11_powers 20 = .ok (.aload_n 0, 1) := by decide +kernel
theorem d_X11_powers_21 : decode cX11_powers 21 = .ok (.iload_n 2, 1) := by decide +kernel
theorem d_X11_powers_22 : decode cX11_powers 22 = .ok (.invokevirtual 293, 3) := by decide +kernel
theorem d_X11_powers_25 : decode cX11_powers 25 = .ok (.iadd, 1) := by decide +kernel
theorem d_X11_powers_26 : decode cX11_powers 26 = .ok (.istore_n 1, 1) := by decide +kernel
theorem d_X11_powers_27 : decode cX11_powers 27 = .ok (.iinc 2 1, 3) := by decide +kernel
theorem d_X11_powers_30 : decode cX11_powers 30 = .ok (.goto (-21), 3) := by decide +kernel
theorem d_X11_powers_33 : decode cX11_powers 33 = .ok (.iload_n 1, 1) := by decide +kernel
theorem d_X11_powers_34 : decode cX11_powers 34 = .ok (.ireturn, 1) := by decide +kernel
set_option maxRecDepth 100000 in
theorem L_X11_powers {p : Program} {l : Launch} {e : Env} {s : State} {m : MethodId} {args : Array Value} {below : List Frame} {meth : Method} {c : Code} {D : va_G} {ca : Nat → ClassId} {ad sx sy : Nat → Nat} {A : Nat → Prop} {Q : QT} (C0 : CX p s m args meth c cX11_powers 3 yX11_powers.cls D ca ad A) (hE : EX sx sy A s s.heap) (hr : meth.sig.returnType = (some .int)) (hno : ∀ x ∈ c.exceptionTable.toList, False) : R_X11_powers (JW p l e { frames := 12, cells := 0, slots := 6 * 0, locals := 250 } s m args below meth c 3 D ca ad A (vx_MQ below (Qn D ca ad A Q) (Qx D ca ad A Q) args s 0 (6 * 0) A) gz gz true) Q := ⟨s_aln C0 (d_X11_powers_0) hgz (s_ic C0 (d_X11_powers_1) hgz (s_pi C0 (j := 0) (c0 := 11) rfl gX11 tyX11_ok nmX11 (by decide) rfl (by decide) rfl rfl wg1201 (d_X11_powers_2) hgz (s_ic C0 (d_X11_powers_5) hgz (s_isn C0 (d_X11_powers_6) hgz (s_ic C0 (d_X11_powers_7) hgz (s_isn C0 (d_X11_powers_8) hgz (fun _ _ _ h => h)) (okn rfl))) (okn rfl))) (okn rfl)),
  s_iln C0 (d_X11_powers_9) hgz (s_aln C0 (d_X11_powers_10) hgz (s_gr C0 (j := 11) (c0 := 11) rfl gX11 (by decide) rfl rfl wg1212 (d_X11_powers_11) hgz (s_ic C0 (d_X11_powers_14) hgz (s_ia C0 (d_X11_powers_15) hgz (s_cge C0 (d_X11_powers_16) (by decide) hgz hgz (fun _ _ _ h => h) (s_iln C0 (d_X11_powers_19) hgz (s_aln C0 (d_X11_powers_20) hgz (s_iln C0 (d_X11_powers_21) hgz (s_callV C0 hE (c_X11_powerOf l) wg1570 wg1567 wg1569 ws113 wg12 ⟨by decide, by decide⟩ (by decide +kernel) (c0 := 11) rfl ⟨by decide, by decide⟩ ⟨by decide, by decide⟩ (d_X11_powers_22) (fun x hx => (hno x hx).elim) ⟨by decide, by decide⟩ ⟨by decide, by decide⟩ (s_add C0 (d_X11_powers_25) hgz (s_isn C0 (d_X11_powers_26) hgz (s_inc C0 (d_X11_powers_27) hgz (s_goto C0 (tgt := 9) (d_X11_powers_30) (by decide) hgz (fun _ _ _ h => h))))))))))) (okn rfl)))),
  s_iln C0 (d_X11_powers_33) hgz (s_ri C0 hr (d_X11_powers_34) ⟨by decide, by decide⟩)⟩
theorem c_X11_powers (l : Launch) : Ctr l yX11_powers cX11_powers 3 (some .int) 12 250 0 (fun sx => (nf G_X11_powers)) := ctr_of (by decide) gz gz ⟨rfl, rfl⟩ (fun p e s m args below meth c D ca ad sx sy A Q as M C0 hE hr hno hF => P_X11_powers (L_X11_powers C0 hE hr hno) hF)
theorem d_X11_restore_0 : decode cX11_restore 0 = .ok (.aload_n 0, 1) := by decide +kernel
theorem d_X11_restore_1 : decode cX11_restore 1 = .ok (.iconst 0, 1) := by decide +kernel
theorem d_X11_restore_2 : decode cX11_restore 2 = .ok (.putfield 106, 3) := by decide +kernel
theorem d_X11_restore_5 : decode cX11_restore 5 = .ok (.aload_n 0, 1) := by decide +kernel
theorem d_X11_restore_6 : decode cX11_restore 6 = .ok (.getfield 205, 3) := by decide +kernel
theorem d_X11_restore_9 : decode cX11_restore 9 = .ok (.ifCond .ne 5, 3) := by decide +kernel
theorem d_X11_restore_12 : decode cX11_restore 12 = .ok (.iconst (-1), 1) := by decide +kernel
theorem d_X11_restore_13 : decode cX11_restore 13 = .ok (.ireturn, 1) := by decide +kernel
theorem d_X11_restore_14 : decode cX11_restore 14 = .ok (.aload_n 0, 1) := by decide +kernel
theorem d_X11_restore_15 : decode cX11_restore 15 = .ok (.dup, 1) := by decide +kernel
theorem d_X11_restore_16 : decode cX11_restore 16 = .ok (.getfield 205, 3) := by decide +kernel
theorem d_X11_restore_19 : decode cX11_restore 19 = .ok (.iconst 1, 1) := by decide +kernel
theorem d_X11_restore_20 : decode cX11_restore 20 = .ok (.isub, 1) := by decide +kernel
theorem d_X11_restore_21 : decode cX11_restore 21 = .ok (.putfield 205, 3) := by decide +kernel
theorem d_X11_restore_24 : decode cX11_restore 24 = .ok (.aload_n 0, 1) := by decide +kernel
theorem d_X11_restore_25 : decode cX11_restore 25 = .ok (.aload_n 0, 1) := by decide +kernel
theorem d_X11_restore_26 : decode cX11_restore 26 = .ok (.getfield 61, 3) := by decide +kernel
theorem d_X11_restore_29 : decode cX11_restore 29 = .ok (.aload_n 0, 1) := by decide +kernel
theorem d_X11_restore_30 : decode cX11_restore 30 = .ok (.getfield 205, 3) := by decide +kernel
theorem d_X11_restore_33 : decode cX11_restore 33 = .ok (.aaload, 1) := by decide +kernel
theorem d_X11_restore_34 : decode cX11_restore 34 = .ok (.iconst 1, 1) := by decide +kernel
theorem d_X11_restore_35 : decode cX11_restore 35 = .ok (.invokevirtual 316, 3) := by decide +kernel
theorem d_X11_restore_38 : decode cX11_restore 38 = .ok (.aload_n 0, 1) := by decide +kernel
theorem d_X11_restore_39 : decode cX11_restore 39 = .ok (.getfield 205, 3) := by decide +kernel
theorem d_X11_restore_42 : decode cX11_restore 42 = .ok (.ireturn, 1) := by decide +kernel
set_option maxRecDepth 100000 in
theorem L_X11_restore {p : Program} {l : Launch} {e : Env} {s : State} {m : MethodId} {args : Array Value} {below : List Frame} {meth : Method} {c : Code} {D : va_G} {ca : Nat → ClassId} {ad sx sy : Nat → Nat} {A : Nat → Prop} {Q : QT} (C0 : CX p s m args meth c cX11_restore 1 yX11_restore.cls D ca ad A) (hE : EX sx sy A s s.heap) (hr : meth.sig.returnType = (some .int)) (hno : ∀ x ∈ c.exceptionTable.toList, False) : R_X11_restore (JW p l e { frames := 12, cells := 0, slots := 6 * 0, locals := 247 } s m args below meth c 1 D ca ad A (vx_MQ below (Qn D ca ad A Q) (Qx D ca ad A Q) args s 0 (6 * 0) A) gz gz true) Q := ⟨s_aln C0 (d_X11_restore_0) hgz (s_ic C0 (d_X11_restore_1) hgz (s_pi C0 (j := 0) (c0 := 11) rfl gX11 tyX11_ok nmX11 (by decide) rfl (by decide) rfl rfl wg1201 (d_X11_restore_2) hgz (s_aln C0 (d_X11_restore_5) hgz (s_gi C0 (j := 24) (c0 := 11) rfl gX11 (by decide) rfl (by decide) wg1225 (d_X11_restore_6) hgz (s_zne C0 (d_X11_restore_9) (by decide) hgz hgz (fun _ _ _ h => h) (s_ic C0 (d_X11_restore_12) hgz (s_ri C0 hr (d_X11_restore_13) ⟨by decide, by decide⟩) (okn rfl)))))) (okn rfl)),
  s_aln C0 (d_X11_restore_14) hgz (s_dup C0 (d_X11_restore_15) hgz (s_gi C0 (j := 24) (c0 := 11) rfl gX11 (by decide) rfl (by decide) wg1225 (d_X11_restore_16) hgz (s_ic C0 (d_X11_restore_19) hgz (s_sub C0 (d_X11_restore_20) hgz (s_pi C0 (j := 24) (c0 := 11) rfl gX11 tyX11_ok nmX11 (by decide) rfl (by decide) rfl rfl wg1225 (d_X11_restore_21) hgz (s_aln C0 (d_X11_restore_24) hgz (s_aln C0 (d_X11_restore_25) hgz (s_gr C0 (j := 27) (c0 := 11) rfl gX11 (by decide) rfl rfl wg1228 (d_X11_restore_26) hgz (s_aln C0 (d_X11_restore_29) hgz (s_gi C0 (j := 24) (c0 := 11) rfl gX11 (by decide) rfl (by decide) wg1225 (d_X11_restore_30) hgz (s_aa C0 (by decide) (by decide) rfl rfl (d_X11_restore_33) hgz (s_ic C0 (d_X11_restore_34) hgz (s_callV C0 hE (c_X11_movesAll l) wg1637 wg1634 wg1636 ws118 wg12 ⟨by decide, by decide⟩ (by decide +kernel) (c0 := 11) rfl ⟨by decide, by decide⟩ ⟨by decide, by decide⟩ (d_X11_restore_35) (fun x hx => (hno x hx).elim) ⟨by decide, by decide⟩ ⟨by decide, by decide⟩ (s_aln C0 (d_X11_restore_38) hgz (s_gi C0 (j := 24) (c0 := 11) rfl gX11 (by decide) rfl (by decide) wg1225 (d_X11_restore_39) hgz (s_ri C0 hr (d_X11_restore_42) ⟨by decide, by decide⟩)))) (okn rfl)))))))))) (okn rfl))))⟩
theorem c_X11_restore (l : Launch) : Ctr l yX11_restore cX11_restore 1 (some .int) 12 247 0 (fun sx => (nf G_X11_restore)) := ctr_of (by decide) gz gz ⟨rfl, rfl⟩ (fun p e s m args below meth c D ca ad sx sy A Q as M C0 hE hr hno hF => P_X11_restore (L_X11_restore C0 hE hr hno) hF)
theorem wg1625 : Cond.code ⟨"WeighedHallModel", "passesLater", "(II)Z"⟩ prog_13_method_72_code 3 (Option.some .boolean) ∈ GT := gt_mem 1745 (by decide +kernel) rfl
theorem wg1622 : Cond.methodLink "WeighedHallModel" 305 ⟨"WeighedHallModel", "passesLater", "(II)Z"⟩ ∈ GT := gt_mem 1742 (by decide +kernel) rfl
theorem wg1624 : Cond.instanceMethod ⟨"WeighedHallModel", "passesLater", "(II)Z"⟩ ∈ GT := gt_mem 1744 (by decide +kernel) rfl
theorem ws117 : Cond.selects "WeighedHallModel" ⟨"WeighedHallModel", "passesLater", "(II)Z"⟩ ⟨"WeighedHallModel", "passesLater", "(II)Z"⟩ ∈ GT := gt_mem 117 (by decide +kernel) rfl
theorem d_X11_speech_0 : decode cX11_speech 0 = .ok (.aload_n 0, 1) := by decide +kernel
theorem d_X11_speech_1 : decode cX11_speech 1 = .ok (.iconst 0, 1) := by decide +kernel
theorem d_X11_speech_2 : decode cX11_speech 2 = .ok (.putfield 106, 3) := by decide +kernel
theorem d_X11_speech_5 : decode cX11_speech 5 = .ok (.aload_n 0, 1) := by decide +kernel
theorem d_X11_speech_6 : decode cX11_speech 6 = .ok (.aload_n 0, 1) := by decide +kernel
theorem d_X11_speech_7 : decode cX11_speech 7 = .ok (.iload_n 1, 1) := by decide +kernel
theorem d_X11_speech_8 : decode cX11_speech 8 = .ok (.invokevirtual 269, 3) := by decide +kernel
theorem d_X11_speech_11 : decode cX11_speech 11 = .ok (.ifCond .ne 7, 3) := by decide +kernel
theorem d_X11_speech_14 : decode cX11_speech 14 = .ok (.iconst 1, 1) := by decide +kernel
theorem d_X11_speech_15 : decode cX11_speech 15 = .ok (.goto 4, 3) := by decide +kernel
theorem d_X11_speech_18 : decode cX11_speech 18 = .ok (.iconst 0, 1) := by decide +kernel
theorem d_X11_speech_19 : decode cX11_speech 19 = .ok (.iconst 1, 1) := by decide +kernel
theorem d_X11_speech_20 : decode cX11_speech 20 = .ok (.iconst 0, 1) := by decide +kernel
theorem d_X11_speech_21 : decode cX11_speech 21 = .ok (.invokevirtual 188, 3) := by decide +kernel
theorem d_X11_speech_24 : decode cX11_speech 24 = .ok (.ifCond .ne 27, 3) := by decide +kernel
theorem d_X11_speech_27 : decode cX11_speech 27 = .ok (.aload_n 0, 1) := by decide +kernel
theorem d_X11_speech_28 : decode cX11_speech 28 = .ok (.iload_n 2, 1) := by decide +kernel
theorem d_X11_speech_29 : decode cX11_speech 29 = .ok (.iconst 1, 1) := by decide +kernel
theorem d_X11_speech_30 : decode cX11_speech 30 = .ok (.bipush 60, 2) := by decide +kernel
theorem d_X11_speech_32 : decode cX11_speech 32 = .ok (.invokestatic 140, 3) := by decide +kernel
theorem d_X11_speech_35 : decode cX11_speech 35 = .ok (.ifCond .ne 7, 3) := by decide +kernel
theorem d_X11_speech_38 : decode cX11_speech 38 = .ok (.iconst 1, 1) := by decide +kernel
theorem d_X11_speech_39 : decode cX11_speech 39 = .ok (.goto 4, 3) := by decide +kernel
theorem d_X11_speech_42 : decode cX11_speech 42 = .ok (.iconst 0, 1) := by decide +kernel
theorem d_X11_speech_43 : decode cX11_speech 43 = .ok (.iconst 2, 1) := by decide +kernel
theorem d_X11_speech_44 : decode cX11_speech 44 = .ok (.iconst 1, 1) := by decide +kernel
theorem d_X11_speech_45 : decode cX11_speech 45 = .ok (.invokevirtual 188, 3) := by decide +kernel
theorem d_X11_speech_48 : decode cX11_speech 48 = .ok (.ifCond .eq 5, 3) := by decide +kernel
theorem d_X11_speech_51 : decode cX11_speech 51 = .ok (.iconst 0, 1) := by decide +kernel
theorem d_X11_speech_52 : decode cX11_speech 52 = .ok (.ireturn, 1) := by decide +kernel
theorem d_X11_speech_53 : decode cX11_speech 53 = .ok (.aload_n 0, 1) := by decide +kernel
theorem d_X11_speech_54 : decode cX11_speech 54 = .ok (.iload_n 1, 1) := by decide +kernel
theorem d_X11_speech_55 : decode cX11_speech 55 = .ok (.iload_n 2, 1) := by decide +kernel
theorem d_X11_speech_56 : decode cX11_speech 56 = .ok (.invokevirtual 305, 3) := by decide +kernel
theorem d_X11_speech_59 : decode cX11_speech 59 = .ok (.ireturn, 1) := by decide +kernel
set_option maxRecDepth 100000 in
theorem L_X11_speech {p : Program} {l : Launch} {e : Env} {s : State} {m : MethodId} {args : Array Value} {below : List Frame} {meth : Method} {c : Code} {D : va_G} {ca : Nat → ClassId} {ad sx sy : Nat → Nat} {A : Nat → Prop} {Q : QT} (C0 : CX p s m args meth c cX11_speech 3 yX11_speech.cls D ca ad A) (hE : EX sx sy A s s.heap) (hr : meth.sig.returnType = (some .boolean)) (hno : ∀ x ∈ c.exceptionTable.toList, False) : R_X11_speech (JW p l e { frames := 15, cells := 0, slots := 6 * 0, locals := 314 } s m args below meth c 3 D ca ad A (vx_MQ below (Qn D ca ad A Q) (Qx D ca ad A Q) args s 0 (6 * 0) A) gz gz true) Q := ⟨s_aln C0 (d_X11_speech_0) hgz (s_ic C0 (d_X11_speech_1) hgz (s_pi C0 (j := 0) (c0 := 11) rfl gX11 tyX11_ok nmX11 (by decide) rfl (by decide) rfl rfl wg1201 (d_X11_speech_2) hgz (s_aln C0 (d_X11_speech_5) hgz (s_aln C0 (d_X11_speech_6) hgz (s_iln C0 (d_X11_speech_7) hgz (s_callV C0 hE (c_X11_isMotion l) wg1528 wg1525 wg1527 ws110 wg12 ⟨by decide, by decide⟩ (by decide +kernel) (c0 := 11) rfl ⟨by decide, by decide⟩ ⟨by decide, by decide⟩ (d_X11_speech_8) (fun x hx => (hno x hx).elim) ⟨by decide, by decide⟩ ⟨by decide, by decide⟩ (s_zne C0 (d_X11_speech_11) (by decide) hgz hgz (fun _ _ _ h => h) (s_ic C0 (d_X11_speech_14) hgz (s_goto C0 (tgt := 19) (d_X11_speech_15) (by decide) hgz (fun _ _ _ h => h)) (okn rfl)))))))) (okn rfl)),
  s_ic C0 (d_X11_speech_18) hgz (fun _ _ _ h => h) (okn rfl),
  s_ic C0 (d_X11_speech_19) hgz (s_ic C0 (d_X11_speech_20) hgz (s_callV C0 hE (c_X11_bad l) wg1359 wg1356 wg1358 ws82 wg12 ⟨by decide, by decide⟩ (by decide +kernel) (c0 := 11) rfl ⟨by decide, by decide⟩ ⟨by decide, by decide⟩ (d_X11_speech_21) (fun x hx => (hno x hx).elim) ⟨by decide, by decide⟩ ⟨by decide, by decide⟩ (s_zne C0 (d_X11_speech_24) (by decide) hgz hgz (fun _ _ _ h => h) (s_aln C0 (d_X11_speech_27) hgz (s_iln C0 (d_X11_speech_28) hgz (s_ic C0 (d_X11_speech_29) hgz (s_bi C0 (d_X11_speech_30) hgz (s_callS C0 hE (c_X11_in l) wg1355 wg1353 wg1354 wg12 ⟨by decide, by decide⟩ (by decide +kernel) ⟨by decide, by decide⟩ ⟨by decide, by decide⟩ (d_X11_speech_32) (fun x hx => (hno x hx).elim) ⟨by decide, by decide⟩ ⟨by decide, by decide⟩ (s_zne C0 (d_X11_speech_35) (by decide) hgz hgz (fun _ _ _ h => h) (s_ic C0 (d_X11_speech_38) hgz (s_goto C0 (tgt := 43) (d_X11_speech_39) (by decide) hgz (fun _ _ _ h => h)) (okn rfl)))) (okn rfl) rfl) (okn rfl)))))) (okn rfl)) (okn rfl),
  s_ic C0 (d_X11_speech_42) hgz (fun _ _ _ h => h) (okn rfl),
  s_ic C0 (d_X11_speech_43) hgz (s_ic C0 (d_X11_speech_44) hgz (s_callV C0 hE (c_X11_bad l) wg1359 wg1356 wg1358 ws82 wg12 ⟨by decide, by decide⟩ (by decide +kernel) (c0 := 11) rfl ⟨by decide, by decide⟩ ⟨by decide, by decide⟩ (d_X11_speech_45) (fun x hx => (hno x hx).elim) ⟨by decide, by decide⟩ ⟨by decide, by decide⟩ (s_zeq C0 (d_X11_speech_48) (by decide) hgz hgz (fun _ _ _ h => h) (fun _ _ _ h => h))) (okn rfl)) (okn rfl),
  s_ic C0 (d_X11_speech_51) hgz (s_rz C0 hr (d_X11_speech_52) ⟨by decide, by decide⟩) (okn rfl),
  s_aln C0 (d_X11_speech_53) hgz (s_iln C0 (d_X11_speech_54) hgz (s_iln C0 (d_X11_speech_55) hgz (s_callV C0 hE (c_X11_passesLater l) wg1625 wg1622 wg1624 ws117 wg12 ⟨by decide, by decide⟩ (by decide +kernel) (c0 := 11) rfl ⟨by decide, by decide⟩ ⟨by decide, by decide⟩ (d_X11_speech_56) (fun x hx => (hno x hx).elim) ⟨by decide, by decide⟩ ⟨by decide, by decide⟩ (s_rz C0 hr (d_X11_speech_59) ⟨by decide, by decide⟩))))⟩
theorem c_X11_speech (l : Launch) : Ctr l yX11_speech cX11_speech 3 (some .boolean) 15 314 0 (fun sx => (nf G_X11_speech)) := ctr_of (by decide) gz gz ⟨rfl, rfl⟩ (fun p e s m args below meth c D ca ad sx sy A Q as M C0 hE hr hno hF => P_X11_speech (L_X11_speech C0 hE hr hno) hF)
theorem d_X11_spent_0 : decode cX11_spent 0 = .ok (.aload_n 0, 1) := by decide +kernel
theorem d_X11_spent_1 : decode cX11_spent 1 = .ok (.iconst 0, 1) := by decide +kernel
theorem d_X11_spent_2 : decode cX11_spent 2 = .ok (.putfield 106, 3) := by decide +kernel
theorem d_X11_spent_5 : decode cX11_spent 5 = .ok (.aload_n 0, 1) := by decide +kernel
theorem d_X11_spent_6 : decode cX11_spent 6 = .ok (.aload_n 0, 1) := by decide +kernel
theorem d_X11_spent_7 : decode cX11_spent 7 = .ok (.iload_n 1, 1) := by decide +kernel
theorem d_X11_spent_8 : decode cX11_spent 8 = .ok (.invokevirtual 214, 3) := by decide +kernel
theorem d_X11_spent_11 : decode cX11_spent 11 = .ok (.ifCond .ne 7, 3) := by decide +kernel
theorem d_X11_spent_14 : decode cX11_spent 14 = .ok (.iconst 1, 1) := by decide +kernel
theorem d_X11_spent_15 : decode cX11_spent 15 = .ok (.goto 4, 3) := by decide +kernel
theorem d_X11_spent_18 : decode cX11_spent 18 = .ok (.iconst 0, 1) := by decide +kernel
theorem d_X11_spent_19 : decode cX11_spent 19 = .ok (.iconst 1, 1) := by decide +kernel
theorem d_X11_spent_20 : decode cX11_spent 20 = .ok (.iconst 0, 1) := by decide +kernel
theorem d_X11_spent_21 : decode cX11_spent 21 = .ok (.invokevirtual 188, 3) := by decide +kernel
theorem d_X11_spent_24 : decode cX11_spent 24 = .ok (.ifCond .eq 5, 3) := by decide +kernel
theorem d_X11_spent_27 : decode cX11_spent 27 = .ok (.iconst 0, 1) := by decide +kernel
theorem d_X11_spent_28 : decode cX11_spent 28 = .ok (.ireturn, 1) := by decide +kernel
theorem d_X11_spent_29 : decode cX11_spent 29 = .ok (.aload_n 0, 1) := by decide +kernel
theorem d_X11_spent_30 : decode cX11_spent 30 = .ok (.invokevirtual 266, 3) := by decide +kernel
theorem d_X11_spent_33 : decode cX11_spent 33 = .ok (.aload_n 0, 1) := by decide +kernel
theorem d_X11_spent_34 : decode cX11_spent 34 = .ok (.getfield 76, 3) := by decide +kernel
theorem d_X11_spent_37 : decode cX11_spent 37 = .ok (.iload_n 1, 1) := by decide +kernel
theorem d_X11_spent_38 : decode cX11_spent 38 = .ok (.iaload, 1) := by decide +kernel
theorem d_X11_spent_39 : decode cX11_spent 39 = .ok (.ireturn, 1) := by decide +kernel
set_option maxRecDepth 100000 in
theorem L_X11_spent {p : Program} {l : Launch} {e : Env} {s : State} {m : MethodId} {args : Array Value} {below : List Frame} {meth : Method} {c : Code} {D : va_G} {ca : Nat → ClassId} {ad sx sy : Nat → Nat} {A : Nat → Prop} {Q : QT} (C0 : CX p s m args meth c cX11_spent 2 yX11_spent.cls D ca ad A) (hE : EX sx sy A s s.heap) (hr : meth.sig.returnType = (some .int)) (hno : ∀ x ∈ c.exceptionTable.toList, False) : R_X11_spent (JW p l e { frames := 15, cells := 0, slots := 6 * 0, locals := 312 } s m args below meth c 2 D ca ad A (vx_MQ below (Qn D ca ad A Q) (Qx D ca ad A Q) args s 0 (6 * 0) A) gz gz true) Q := ⟨s_aln C0 (d_X11_spent_0) hgz (s_ic C0 (d_X11_spent_1) hgz (s_pi C0 (j := 0) (c0 := 11) rfl gX11 tyX11_ok nmX11 (by decide) rfl (by decide) rfl rfl wg1201 (d_X11_spent_2) hgz (s_aln C0 (d_X11_spent_5) hgz (s_aln C0 (d_X11_spent_6) hgz (s_iln C0 (d_X11_spent_7) hgz (s_callV C0 hE (c_X11_isPerson l) wg1446 wg1443 wg1445 ws97 wg12 ⟨by decide, by decide⟩ (by decide +kernel) (c0 := 11) rfl ⟨by decide, by decide⟩ ⟨by decide, by decide⟩ (d_X11_spent_8) (fun x hx => (hno x hx).elim) ⟨by decide, by decide⟩ ⟨by decide, by decide⟩ (s_zne C0 (d_X11_spent_11) (by decide) hgz hgz (fun _ _ _ h => h) (s_ic C0 (d_X11_spent_14) hgz (s_goto C0 (tgt := 19) (d_X11_spent_15) (by decide) hgz (fun _ _ _ h => h)) (okn rfl)))))))) (okn rfl)),
  s_ic C0 (d_X11_spent_18) hgz (fun _ _ _ h => h) (okn rfl),
  s_ic C0 (d_X11_spent_19) hgz (s_ic C0 (d_X11_spent_20) hgz (s_callV C0 hE (c_X11_bad l) wg1359 wg1356 wg1358 ws82 wg12 ⟨by decide, by decide⟩ (by decide +kernel) (c0 := 11) rfl ⟨by decide, by decide⟩ ⟨by decide, by decide⟩ (d_X11_spent_21) (fun x hx => (hno x hx).elim) ⟨by decide, by decide⟩ ⟨by decide, by decide⟩ (s_zeq C0 (d_X11_spent_24) (by decide) hgz hgz (fun _ _ _ h => h) (s_ic C0 (d_X11_spent_27) hgz (s_ri C0 hr (d_X11_spent_28) ⟨by decide, by decide⟩) (okn rfl)))) (okn rfl)) (okn rfl),
  s_aln C0 (d_X11_spent_29) hgz (s_callV C0 hE (c_X11_goesAll l) wg1520 wg1517 wg1519 ws109 wg12 ⟨by decide, by decide⟩ (by decide +kernel) (c0 := 11) rfl ⟨by decide, by decide⟩ ⟨by decide, by decide⟩ (d_X11_spent_30) (fun x hx => (hno x hx).elim) ⟨by decide, by decide⟩ ⟨by decide, by decide⟩ (s_aln C0 (d_X11_spent_33) hgz (s_gr C0 (j := 32) (c0 := 11) rfl gX11 (by decide) rfl rfl wg1233 (d_X11_spent_34) hgz (s_iln C0 (d_X11_spent_37) hgz (s_ia C0 (d_X11_spent_38) hgz (s_ri C0 hr (d_X11_spent_39) ⟨by decide, by decide⟩))))))⟩
theorem c_X11_spent (l : Launch) : Ctr l yX11_spent cX11_spent 2 (some .int) 15 312 0 (fun sx => (nf G_X11_spent)) := ctr_of (by decide) gz gz ⟨rfl, rfl⟩ (fun p e s m args below meth c D ca ad sx sy A Q as M C0 hE hr hno hF => P_X11_spent (L_X11_spent C0 hE hr hno) hF)
theorem d_X11_status_0 : decode cX11_status 0 = .ok (.aload_n 0, 1) := by decide +kernel
theorem d_X11_status_1 : decode cX11_status 1 = .ok (.iconst 0, 1) := by decide +kernel
theorem d_X11_status_2 : decode cX11_status 2 = .ok (.putfield 106, 3) := by decide +kernel
theorem d_X11_status_5 : decode cX11_status 5 = .ok (.iload_n 1, 1) := by decide +kernel
theorem d_X11_status_6 : decode cX11_status 6 = .ok (.iconst 0, 1) := by decide +kernel
theorem d_X11_status_7 : decode cX11_status 7 = .ok (.iconst 1, 1) := by decide +kernel
theorem d_X11_status_8 : decode cX11_status 8 = .ok (.invokestatic 140, 3) := by decide +kernel
theorem d_X11_status_11 : decode cX11_status 11 = .ok (.ifCond .eq 12, 3) := by decide +kernel
theorem d_X11_status_14 : decode cX11_status 14 = .ok (.aload_n 0, 1) := by decide +kernel
theorem d_X11_status_15 : decode cX11_status 15 = .ok (.getfield 17, 3) := by decide +kernel
theorem d_X11_status_18 : decode cX11_status 18 = .ok (.iload_n 1, 1) := by decide +kernel
theorem d_X11_status_19 : decode cX11_status 19 = .ok (.iaload, 1) := by decide +kernel
theorem d_X11_status_20 : decode cX11_status 20 = .ok (.goto 4, 3) := by decide +kernel
theorem d_X11_status_23 : decode cX11_status 23 = .ok (.iconst (-1), 1) := by decide +kernel
theorem d_X11_status_24 : decode cX11_status 24 = .ok (.ireturn, 1) := by decide +kernel
set_option maxRecDepth 100000 in
theorem L_X11_status {p : Program} {l : Launch} {e : Env} {s : State} {m : MethodId} {args : Array Value} {below : List Frame} {meth : Method} {c : Code} {D : va_G} {ca : Nat → ClassId} {ad sx sy : Nat → Nat} {A : Nat → Prop} {Q : QT} (C0 : CX p s m args meth c cX11_status 2 yX11_status.cls D ca ad A) (hE : EX sx sy A s s.heap) (hr : meth.sig.returnType = (some .int)) (hno : ∀ x ∈ c.exceptionTable.toList, False) : R_X11_status (JW p l e { frames := 11, cells := 0, slots := 6 * 0, locals := 222 } s m args below meth c 2 D ca ad A (vx_MQ below (Qn D ca ad A Q) (Qx D ca ad A Q) args s 0 (6 * 0) A) gz gz true) Q := ⟨s_aln C0 (d_X11_status_0) hgz (s_ic C0 (d_X11_status_1) hgz (s_pi C0 (j := 0) (c0 := 11) rfl gX11 tyX11_ok nmX11 (by decide) rfl (by decide) rfl rfl wg1201 (d_X11_status_2) hgz (s_iln C0 (d_X11_status_5) hgz (s_ic C0 (d_X11_status_6) hgz (s_ic C0 (d_X11_status_7) hgz (s_callS C0 hE (c_X11_in l) wg1355 wg1353 wg1354 wg12 ⟨by decide, by decide⟩ (by decide +kernel) ⟨by decide, by decide⟩ ⟨by decide, by decide⟩ (d_X11_status_8) (fun x hx => (hno x hx).elim) ⟨by decide, by decide⟩ ⟨by decide, by decide⟩ (s_zeq C0 (d_X11_status_11) (by decide) hgz hgz (fun _ _ _ h => h) (s_aln C0 (d_X11_status_14) hgz (s_gr C0 (j := 9) (c0 := 11) rfl gX11 (by decide) rfl rfl wg1210 (d_X11_status_15) hgz (s_iln C0 (d_X11_status_18) hgz (s_ia C0 (d_X11_status_19) hgz (s_goto C0 (tgt := 24) (d_X11_status_20) (by decide) hgz (fun _ _ _ h => h)))))))) (okn rfl)) (okn rfl)))) (okn rfl)),
  s_ic C0 (d_X11_status_23) hgz (fun _ _ _ h => h) (okn rfl),
  s_ri C0 hr (d_X11_status_24) ⟨by decide, by decide⟩⟩
theorem c_X11_status (l : Launch) : Ctr l yX11_status cX11_status 2 (some .int) 11 222 0 (fun sx => (nf G_X11_status)) := ctr_of (by decide) gz gz ⟨rfl, rfl⟩ (fun p e s m args below meth c D ca ad sx sy A Q as M C0 hE hr hno hF => P_X11_status (L_X11_status C0 hE hr hno) hF)
theorem d_X11_sums_0 : decode cX11_sums 0 = .ok (.aload_n 0, 1) := by decide +kernel
theorem d_X11_sums_1 : decode cX11_sums 1 = .ok (.iconst 0, 1) := by decide +kernel
theorem d_X11_sums_2 : decode cX11_sums 2 = .ok (.putfield 106, 3) := by decide +kernel
theorem d_X11_sums_5 : decode cX11_sums 5 = .ok (.aload_n 0, 1) := by decide +kernel
theorem d_X11_sums_6 : decode cX11_sums 6 = .ok (.iload_n 1, 1) := by decide +kernel
theorem d_X11_sums_7 : decode cX11_sums 7 = .ok (.invokestatic 263, 3) := by decide +kernel
theorem d_X11_sums_10 : decode cX11_sums 10 = .ok (.ifCond .eq 12, 3) := by decide +kernel
theorem d_X11_sums_13 : decode cX11_sums 13 = .ok (.iload_n 2, 1) := by decide +kernel
theorem d_X11_sums_14 : decode cX11_sums 14 = .ok (.iconst 0, 1) := by decide +kernel
theorem d_X11_sums_15 : decode cX11_sums 15 = .ok (.iconst 2, 1) := by decide +kernel
theorem d_X11_sums_16 : decode cX11_sums 16 = .ok (.invokestatic 140, 3) := by decide +kernel
theorem d_X11_sums_19 : decode cX11_sums 19 = .ok (.ifCond .ne 7, 3) := by decide +kernel
theorem d_X11_sums_22 : decode cX11_sums 22 = .ok (.iconst 1, 1) := by decide +kernel
theorem d_X11_sums_23 : decode cX11_sums 23 = .ok (.goto 4, 3) := by decide +kernel
theorem d_X11_sums_26 : decode cX11_sums 26 = .ok (.iconst 0, 1) := by decide +kernel
theorem d_X11_sums_27 : decode cX11_sums 27 = .ok (.iconst 1, 1) := by decide +kernel
theorem d_X11_sums_28 : decode cX11_sums 28 = .ok (.iconst 1, 1) := by decide +kernel
theorem d_X11_sums_29 : decode cX11_sums 29 = .ok (.invokevirtual 188, 3) := by decide +kernel
theorem d_X11_sums_32 : decode cX11_sums 32 = .ok (.ifCond .eq 5, 3) := by decide +kernel
theorem d_X11_sums_35 : decode cX11_sums 35 = .ok (.iconst 0, 1) := by decide +kernel
theorem d_X11_sums_36 : decode cX11_sums 36 = .ok (.ireturn, 1) := by decide +kernel
theorem d_X11_sums_37 : decode cX11_sums 37 = .ok (.aload_n 0, 1) := by decide +kernel
theorem d_X11_sums_38 : decode cX11_sums 38 = .ok (.ldc_w 259, 3) := by decide +kernel
theorem d_X11_sums_41 : decode cX11_sums 41 = .ok (.putfield 229, 3) := by decide +kernel
theorem d_X11_sums_44 : decode cX11_sums 44 = .ok (.aload_n 0, 1) := by decide +kernel
theorem d_X11_sums_45 : decode cX11_sums 45 = .ok (.iload_n 1, 1) := by decide +kernel
theorem d_X11_sums_46 : decode cX11_sums 46 = .ok (.invokevirtual 260, 3) := by decide +kernel
theorem d_X11_sums_49 : decode cX11_sums 49 = .ok (.iconst 0, 1) := by decide +kernel
theorem d_X11_sums_50 : decode cX11_sums 50 = .ok (.istore_n 3, 1) := by decide +kernel
theorem d_X11_sums_51 : decode cX11_sums 51 = .ok (.iconst 0, 1) := by decide +kernel
theorem d_X11_sums_52 : decode cX11_sums 52 = .ok (.istore 4, 2) := by decide +kernel
theorem d_X11_sums_54 : decode cX11_sums 54 = .ok (.iload 4, 2) := by decide +kernel
theorem d_X11_sums_56 : decode cX11_sums 56 = .ok (.aload_n 0, 1) := by decide +kernel
theorem d_X11_sums_57 : decode cX11_sums 57 = .ok (.getfield 23, 3) := by decide +kernel
theorem d_X11_sums_60 : decode cX11_sums 60 = .ok (.iconst 1, 1) := by decide +kernel
theorem d_X11_sums_61 : decode cX11_sums 61 = .ok (.iaload, 1) := by decide +kernel
theorem d_X11_sums_62 : decode cX11_sums 62 = .ok (.if_icmp .ge 65, 3) := by decide +kernel
theorem d_X11_sums_65 : decode cX11_sums 65 = .ok (.aload_n 0, 1) := by decide +kernel
theorem d_X11_sums_66 : decode cX11_sums 66 = .ok (.getfield 64, 3) := by decide +kernel
theorem d_X11_sums_69 : decode cX11_sums 69 = .ok (.iload 4, 2) := by decide +kernel
theorem d_X11_sums_71 : decode cX11_sums 71 = .ok (.iaload, 1) := by decide +kernel
theorem d_X11_sums_72 : decode cX11_sums 72 = .ok (.iconst (-1), 1) := by decide +kernel
theorem d_X11_sums_73 : decode cX11_sums 73 = .ok (.if_icmp .ne 7, 3) := by decide +kernel
theorem d_X11_sums_76 : decode cX11_sums 76 = .ok (.iconst 0, 1) := by decide +kernel
theorem d_X11_sums_77 : decode cX11_sums 77 = .ok (.goto 20, 3) := by decide +kernel
theorem d_X11_sums_80 : decode cX11_sums 80 = .ok (.aload_n 0, 1) := by decide +kernel
theorem d_X11_sums_81 : decode cX11_sums 81 = .ok (.getfield 64, 3) := by decide +kernel
theorem d_X11_sums_84 : decode cX11_sums 84 = .ok (.iload 4, 2) := by decide +kernel
theorem d_X11_sums_86 : decode cX11_sums 86 = .ok (.iaload, 1) := by decide +kernel
theorem d_X11_sums_87 : decode cX11_sums 87 = .ok (.bipush (-2), 2) := by decide +kernel
theorem d_X11_sums_89 : decode cX11_sums 89 = .ok (.if_icmp .ne 7, 3) := by decide +kernel
theorem d_X11_sums_92 : decode cX11_sums 92 = .ok (.iconst 2, 1) := by decide +kernel
theorem d_X11_sums_93 : decode cX11_sums 93 = .ok (.goto 4, 3) := by decide +kernel
theorem d_X11_sums_96 : decode cX11_sums 96 = .ok (.iconst 1, 1) := by decide +kernel
theorem d_X11_sums_97 : decode cX11_sums 97 = .ok (.istore 5, 2) := by decide +kernel
theorem d_X11_sums_99 : decode cX11_sums 99 = .ok (.iload_n 3, 1) := by decide +kernel
theorem d_X11_sums_100 : decode cX11_sums 100 = .ok (.iload 5, 2) := by decide +kernel
theorem d_X11_sums_102 : decode cX11_sums 102 = .ok (.iload_n 2, 1) := by decide +kernel
theorem d_X11_sums_103 : decode cX11_sums 103 = .ok (.if_icmp .ne 15, 3) := by decide +kernel
theorem d_X11_sums_106 : decode cX11_sums 106 = .ok (.aload_n 0, 1) := by decide +kernel
theorem d_X11_sums_107 : decode cX11_sums 107 = .ok (.getfield 37, 3) := by decide +kernel
theorem d_X11_sums_110 : decode cX11_sums 110 = .ok (.iload 4, 2) := by decide +kernel
theorem d_X11_sums_112 : decode cX11_sums 112 = .ok (.aaload, 1) := by decide +kernel
theorem d_X11_sums_113 : decode cX11_sums 113 = .ok (.iconst 1, 1) := by decide +kernel
theorem d_X11_sums_114 : decode cX11_sums 114 = .ok (.iaload, 1) := by decide +kernel
theorem d_X11_sums_115 : decode cX11_sums 115 = .ok (.goto 4, 3) := by decide +kernel
theorem d_X11_sums_118 : decode cX11_sums 118 = .ok (.iconst 0, 1) := by decide +kernel
theorem d_X11_sums_119 : decode cX11_sums 119 = .ok (.iadd, 1) := by decide +kernel
theorem d_X11_sums_120 : decode cX11_sums 120 = .ok (.istore_n 3, 1) := by decide +kernel
theorem d_X11_sums_121 : decode cX11_sums 121 = .ok (.iinc 4 1, 3) := by decide +kernel
theorem d_X11_sums_124 : decode cX11_sums 124 = .ok (.goto (-70), 3) := by decide +kernel
theorem d_X11_sums_127 : decode cX11_sums 127 = .ok (.iload_n 3, 1) := by decide +kernel
theorem d_X11_sums_128 : decode cX11_sums 128 = .ok (.ireturn, 1) := by decide +kernel
set_option maxRecDepth 100000 in
theorem L_X11_sums {p : Program} {l : Launch} {e : Env} {s : State} {m : MethodId} {args : Array Value} {below : List Frame} {meth : Method} {c : Code} {D : va_G} {ca : Nat → ClassId} {ad sx sy : Nat → Nat} {A : Nat → Prop} {Q : QT} (C0 : CX p s m args meth c cX11_sums 6 yX11_sums.cls D ca ad A) (hE : EX sx sy A s s.heap) (hr : meth.sig.returnType = (some .int)) (hno : ∀ x ∈ c.exceptionTable.toList, False) : R_X11_sums (JW p l e { frames := 14, cells := 0, slots := 6 * 0, locals := 292 } s m args below meth c 6 D ca ad A (vx_MQ below (Qn D ca ad A Q) (Qx D ca ad A Q) args s 0 (6 * 0) A) gz gz true) Q := ⟨s_aln C0 (d_X11_sums_0) hgz (s_ic C0 (d_X11_sums_1) hgz (s_pi C0 (j := 0) (c0 := 11) rfl gX11 tyX11_ok nmX11 (by decide) rfl (by decide) rfl rfl wg1201 (d_X11_sums_2) hgz (s_aln C0 (d_X11_sums_5) hgz (s_iln C0 (d_X11_sums_6) hgz (s_callS C0 hE (c_X11_isMinute l) wg1472 wg1470 wg1471 wg12 ⟨by decide, by decide⟩ (by decide +kernel) ⟨by decide, by decide⟩ ⟨by decide, by decide⟩ (d_X11_sums_7) (fun x hx => (hno x hx).elim) ⟨by decide, by decide⟩ ⟨by decide, by decide⟩ (s_zeq C0 (d_X11_sums_10) (by decide) hgz hgz (fun _ _ _ h => h) (s_iln C0 (d_X11_sums_13) hgz (s_ic C0 (d_X11_sums_14) hgz (s_ic C0 (d_X11_sums_15) hgz (s_callS C0 hE (c_X11_in l) wg1355 wg1353 wg1354 wg12 ⟨by decide, by decide⟩ (by decide +kernel) ⟨by decide, by decide⟩ ⟨by decide, by decide⟩ (d_X11_sums_16) (fun x hx => (hno x hx).elim) ⟨by decide, by decide⟩ ⟨by decide, by decide⟩ (s_zne C0 (d_X11_sums_19) (by decide) hgz hgz (fun _ _ _ h => h) (fun _ _ _ h => h))) (okn rfl)) (okn rfl)))))))) (okn rfl)),
  s_ic C0 (d_X11_sums_22) hgz (s_goto C0 (tgt := 27) (d_X11_sums_23) (by decide) hgz (fun _ _ _ h => h)) (okn rfl),
  s_ic C0 (d_X11_sums_26) hgz (fun _ _ _ h => h) (okn rfl),
  s_ic C0 (d_X11_sums_27) hgz (s_ic C0 (d_X11_sums_28) hgz (s_callV C0 hE (c_X11_bad l) wg1359 wg1356 wg1358 ws82 wg12 ⟨by decide, by decide⟩ (by decide +kernel) (c0 := 11) rfl ⟨by decide, by decide⟩ ⟨by decide, by decide⟩ (d_X11_sums_29) (fun x hx => (hno x hx).elim) ⟨by decide, by decide⟩ ⟨by decide, by decide⟩ (s_zeq C0 (d_X11_sums_32) (by decide) hgz hgz (fun _ _ _ h => h) (s_ic C0 (d_X11_sums_35) hgz (s_ri C0 hr (d_X11_sums_36) ⟨by decide, by decide⟩) (okn rfl)))) (okn rfl)) (okn rfl),
  s_aln C0 (d_X11_sums_37) hgz (s_ldcw C0 (n := 1000000) wg1473 (d_X11_sums_38) hgz (s_pi C0 (j := 36) (c0 := 11) rfl gX11 tyX11_ok nmX11 (by decide) rfl (by decide) rfl rfl wg1237 (d_X11_sums_41) hgz (s_aln C0 (d_X11_sums_44) hgz (s_iln C0 (d_X11_sums_45) hgz (s_callV C0 hE (c_X11_goes l) wg1477 wg1474 wg1476 ws101 wg12 ⟨by decide, by decide⟩ (by decide +kernel) (c0 := 11) rfl ⟨by decide, by decide⟩ ⟨by decide, by decide⟩ (d_X11_sums_46) (fun x hx => (hno x hx).elim) ⟨by decide, by decide⟩ ⟨by decide, by decide⟩ (s_ic C0 (d_X11_sums_49) hgz (s_isn C0 (d_X11_sums_50) hgz (s_ic C0 (d_X11_sums_51) hgz (s_is C0 (d_X11_sums_52) hgz (fun _ _ _ h => h)) (okn rfl))) (okn rfl)))))) (okn rfl)),
  s_il C0 (d_X11_sums_54) hgz (s_aln C0 (d_X11_sums_56) hgz (s_gr C0 (j := 11) (c0 := 11) rfl gX11 (by decide) rfl rfl wg1212 (d_X11_sums_57) hgz (s_ic C0 (d_X11_sums_60) hgz (s_ia C0 (d_X11_sums_61) hgz (s_cge C0 (d_X11_sums_62) (by decide) hgz hgz (fun _ _ _ h => h) (s_aln C0 (d_X11_sums_65) hgz (s_gr C0 (j := 28) (c0 := 11) rfl gX11 (by decide) rfl rfl wg1229 (d_X11_sums_66) hgz (s_il C0 (d_X11_sums_69) hgz (s_ia C0 (d_X11_sums_71) hgz (s_ic C0 (d_X11_sums_72) hgz (s_cne C0 (d_X11_sums_73) (by decide) hgz hgz (fun _ _ _ h => h) (s_ic C0 (d_X11_sums_76) hgz (s_goto C0 (tgt := 97) (d_X11_sums_77) (by decide) hgz (fun _ _ _ h => h)) (okn rfl))) (okn rfl)))))))) (okn rfl)))),
  s_aln C0 (d_X11_sums_80) hgz (s_gr C0 (j := 28) (c0 := 11) rfl gX11 (by decide) rfl rfl wg1229 (d_X11_sums_81) hgz (s_il C0 (d_X11_sums_84) hgz (s_ia C0 (d_X11_sums_86) hgz (s_bi C0 (d_X11_sums_87) hgz (s_cne C0 (d_X11_sums_89) (by decide) hgz hgz (fun _ _ _ h => h) (s_ic C0 (d_X11_sums_92) hgz (s_goto C0 (tgt := 97) (d_X11_sums_93) (by decide) hgz (fun _ _ _ h => h)) (okn rfl))) (okn rfl) rfl)))),
  s_ic C0 (d_X11_sums_96) hgz (fun _ _ _ h => h) (okn rfl),
  s_is C0 (d_X11_sums_97) hgz (s_iln C0 (d_X11_sums_99) hgz (s_il C0 (d_X11_sums_100) hgz (s_iln C0 (d_X11_sums_102) hgz (s_cne C0 (d_X11_sums_103) (by decide) hgz hgz (fun _ _ _ h => h) (s_aln C0 (d_X11_sums_106) hgz (s_gr C0 (j := 15) (c0 := 11) rfl gX11 (by decide) rfl rfl wg1216 (d_X11_sums_107) hgz (s_il C0 (d_X11_sums_110) hgz (s_aa C0 (by decide) (by decide) rfl rfl (d_X11_sums_112) hgz (s_ic C0 (d_X11_sums_113) hgz (s_ia C0 (d_X11_sums_114) hgz (s_goto C0 (tgt := 119) (d_X11_sums_115) (by decide) hgz (fun _ _ _ h => h))) (okn rfl)))))))))),
  s_ic C0 (d_X11_sums_118) hgz (fun _ _ _ h => h) (okn rfl),
  s_add C0 (d_X11_sums_119) hgz (s_isn C0 (d_X11_sums_120) hgz (s_inc C0 (d_X11_sums_121) hgz (s_goto C0 (tgt := 54) (d_X11_sums_124) (by decide) hgz (fun _ _ _ h => h)))),
  s_iln C0 (d_X11_sums_127) hgz (s_ri C0 hr (d_X11_sums_128) ⟨by decide, by decide⟩)⟩
theorem c_X11_sums (l : Launch) : Ctr l yX11_sums cX11_sums 6 (some .int) 14 292 0 (fun sx => (nf G_X11_sums)) := ctr_of (by decide) gz gz ⟨rfl, rfl⟩ (fun p e s m args below meth c D ca ad sx sy A Q as M C0 hE hr hno hF => P_X11_sums (L_X11_sums C0 hE hr hno) hF)
