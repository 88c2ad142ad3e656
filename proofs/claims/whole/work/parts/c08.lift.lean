theorem d_X11_forget_0 : decode cX11_forget 0 = .ok (.aload_n 0, 1) := by decide +kernel
theorem d_X11_forget_1 : decode cX11_forget 1 = .ok (.iconst 0, 1) := by decide +kernel
theorem d_X11_forget_2 : decode cX11_forget 2 = .ok (.putfield 106, 3) := by decide +kernel
theorem d_X11_forget_5 : decode cX11_forget 5 = .ok (.aload_n 0, 1) := by decide +kernel
theorem d_X11_forget_6 : decode cX11_forget 6 = .ok (.getfield 202, 3) := by decide +kernel
theorem d_X11_forget_9 : decode cX11_forget 9 = .ok (.istore_n 1, 1) := by decide +kernel
theorem d_X11_forget_10 : decode cX11_forget 10 = .ok (.aload_n 0, 1) := by decide +kernel
theorem d_X11_forget_11 : decode cX11_forget 11 = .ok (.iconst 0, 1) := by decide +kernel
theorem d_X11_forget_12 : decode cX11_forget 12 = .ok (.putfield 202, 3) := by decide +kernel
theorem d_X11_forget_15 : decode cX11_forget 15 = .ok (.iload_n 1, 1) := by decide +kernel
theorem d_X11_forget_16 : decode cX11_forget 16 = .ok (.ireturn, 1) := by decide +kernel
set_option maxRecDepth 100000 in
theorem L_X11_forget {p : Program} {l : Launch} {e : Env} {s : State} {m : MethodId} {args : Array Value} {below : List Frame} {meth : Method} {c : Code} {D : va_G} {ca : Nat → ClassId} {ad sx sy : Nat → Nat} {A : Nat → Prop} {Q : QT} (C0 : CX p s m args meth c cX11_forget 2 yX11_forget.cls D ca ad A) (hE : EX sx sy A s s.heap) (hr : meth.sig.returnType = (some .int)) (hno : ∀ x ∈ c.exceptionTable.toList, False) : R_X11_forget (JW p l e { frames := 10, cells := 0, slots := 6 * 0, locals := 200 } s m args below meth c 2 D ca ad A (vx_MQ below (Qn D ca ad A Q) (Qx D ca ad A Q) args s 0 (6 * 0) A) gz gz true) Q := s_aln C0 (d_X11_forget_0) hgz (s_ic C0 (d_X11_forget_1) hgz (s_pi C0 (j := 0) (c0 := 11) rfl gX11 tyX11_ok nmX11 (by decide) rfl (by decide) rfl rfl wg1201 (d_X11_forget_2) hgz (s_aln C0 (d_X11_forget_5) hgz (s_gi C0 (j := 23) (c0 := 11) rfl gX11 (by decide) rfl (by decide) wg1224 (d_X11_forget_6) hgz (s_isn C0 (d_X11_forget_9) hgz (s_aln C0 (d_X11_forget_10) hgz (s_ic C0 (d_X11_forget_11) hgz (s_pi C0 (j := 23) (c0 := 11) rfl gX11 tyX11_ok nmX11 (by decide) rfl (by decide) rfl rfl wg1224 (d_X11_forget_12) hgz (s_iln C0 (d_X11_forget_15) hgz (s_ri C0 hr (d_X11_forget_16) ⟨by decide, by decide⟩))) (okn rfl))))))) (okn rfl))
theorem c_X11_forget (l : Launch) : Ctr l yX11_forget cX11_forget 2 (some .int) 10 200 0 (fun sx => (nf G_X11_forget)) := ctr_of (by decide) gz gz ⟨rfl, rfl⟩ (fun p e s m args below meth c D ca ad sx sy A Q as M C0 hE hr hno hF => P_X11_forget (L_X11_forget C0 hE hr hno) hF)
theorem d_X11_starts_0 : decode cX11_starts 0 = .ok (.aload_n 0, 1) := by decide +kernel
theorem d_X11_starts_1 : decode cX11_starts 1 = .ok (.iconst 0, 1) := by decide +kernel
theorem d_X11_starts_2 : decode cX11_starts 2 = .ok (.putfield 109, 3) := by decide +kernel
theorem d_X11_starts_5 : decode cX11_starts 5 = .ok (.aload_n 0, 1) := by decide +kernel
theorem d_X11_starts_6 : decode cX11_starts 6 = .ok (.iload_n 1, 1) := by decide +kernel
theorem d_X11_starts_7 : decode cX11_starts 7 = .ok (.putfield 112, 3) := by decide +kernel
theorem d_X11_starts_10 : decode cX11_starts 10 = .ok (.aload_n 0, 1) := by decide +kernel
theorem d_X11_starts_11 : decode cX11_starts 11 = .ok (.iconst 0, 1) := by decide +kernel
theorem d_X11_starts_12 : decode cX11_starts 12 = .ok (.putfield 115, 3) := by decide +kernel
theorem d_X11_starts_15 : decode cX11_starts 15 = .ok (.aload_n 0, 1) := by decide +kernel
theorem d_X11_starts_16 : decode cX11_starts 16 = .ok (.iconst 0, 1) := by decide +kernel
theorem d_X11_starts_17 : decode cX11_starts 17 = .ok (.putfield 122, 3) := by decide +kernel
theorem d_X11_starts_20 : decode cX11_starts 20 = .ok (.aload_n 0, 1) := by decide +kernel
theorem d_X11_starts_21 : decode cX11_starts 21 = .ok (.iconst (-1), 1) := by decide +kernel
theorem d_X11_starts_22 : decode cX11_starts 22 = .ok (.putfield 125, 3) := by decide +kernel
theorem d_X11_starts_25 : decode cX11_starts 25 = .ok (.aload_n 0, 1) := by decide +kernel
theorem d_X11_starts_26 : decode cX11_starts 26 = .ok (.iconst 0, 1) := by decide +kernel
theorem d_X11_starts_27 : decode cX11_starts 27 = .ok (.putfield 154, 3) := by decide +kernel
theorem d_X11_starts_30 : decode cX11_starts 30 = .ok (.aload_n 0, 1) := by decide +kernel
theorem d_X11_starts_31 : decode cX11_starts 31 = .ok (.invokevirtual 128, 3) := by decide +kernel
theorem d_X11_starts_34 : decode cX11_starts 34 = .ok (.return_, 1) := by decide +kernel
set_option maxRecDepth 100000 in
theorem L_X11_starts {p : Program} {l : Launch} {e : Env} {s : State} {m : MethodId} {args : Array Value} {below : List Frame} {meth : Method} {c : Code} {D : va_G} {ca : Nat → ClassId} {ad sx sy : Nat → Nat} {A : Nat → Prop} {Q : QT} (C0 : CX p s m args meth c cX11_starts 2 yX11_starts.cls D ca ad A) (hE : EX sx sy A s s.heap) (hr : meth.sig.returnType = none) (hno : ∀ x ∈ c.exceptionTable.toList, False) : R_X11_starts (JW p l e { frames := 12, cells := 0, slots := 6 * 0, locals := 241 } s m args below meth c 2 D ca ad A (vx_MQ below (Qn D ca ad A Q) (Qx D ca ad A Q) args s 0 (6 * 0) A) gz gz true) Q := s_aln C0 (d_X11_starts_0) hgz (s_ic C0 (d_X11_starts_1) hgz (s_pi C0 (j := 1) (c0 := 11) rfl gX11 tyX11_ok nmX11 (by decide) rfl (by decide) rfl rfl wg1202 (d_X11_starts_2) hgz (s_aln C0 (d_X11_starts_5) hgz (s_iln C0 (d_X11_starts_6) hgz (s_pi C0 (j := 2) (c0 := 11) rfl gX11 tyX11_ok nmX11 (by decide) rfl (by decide) rfl rfl wg1203 (d_X11_starts_7) hgz (s_aln C0 (d_X11_starts_10) hgz (s_ic C0 (d_X11_starts_11) hgz (s_pi C0 (j := 4) (c0 := 11) rfl gX11 tyX11_ok nmX11 (by decide) rfl (by decide) rfl rfl wg1205 (d_X11_starts_12) hgz (s_aln C0 (d_X11_starts_15) hgz (s_ic C0 (d_X11_starts_16) hgz (s_pi C0 (j := 5) (c0 := 11) rfl gX11 tyX11_ok nmX11 (by decide) rfl (by decide) rfl rfl wg1206 (d_X11_starts_17) hgz (s_aln C0 (d_X11_starts_20) hgz (s_ic C0 (d_X11_starts_21) hgz (s_pi C0 (j := 6) (c0 := 11) rfl gX11 tyX11_ok nmX11 (by decide) rfl (by decide) rfl rfl wg1207 (d_X11_starts_22) hgz (s_aln C0 (d_X11_starts_25) hgz (s_ic C0 (d_X11_starts_26) hgz (s_pi C0 (j := 7) (c0 := 11) rfl gX11 tyX11_ok nmX11 (by decide) rfl (by decide) rfl rfl wg1208 (d_X11_starts_27) hgz (s_aln C0 (d_X11_starts_30) hgz (s_callV C0 hE (c_X11_blanks l) wg1367 wg1364 wg1366 ws84 wg12 ⟨by decide, by decide⟩ (by decide +kernel) (c0 := 11) rfl ⟨by decide, by decide⟩ ⟨by decide, by decide⟩ (d_X11_starts_31) (fun x hx => (hno x hx).elim) ⟨by decide, by decide⟩ ⟨by decide, by decide⟩ (s_rv C0 hr (d_X11_starts_34) ⟨by decide, by decide⟩)))) (okn rfl)))) (okn rfl)))) (okn rfl)))) (okn rfl))))))) (okn rfl))
theorem c_X11_starts (l : Launch) : Ctr l yX11_starts cX11_starts 2 none 12 241 0 (fun sx => (nf G_X11_starts)) := ctr_of (by decide) gz gz ⟨rfl, rfl⟩ (fun p e s m args below meth c D ca ad sx sy A Q as M C0 hE hr hno hF => P_X11_starts (L_X11_starts C0 hE hr hno) hF)
theorem wg1363 : Cond.code ⟨"WeighedHallModel", "starts", "(I)V"⟩ prog_13_method_16_code 2 (Option.none : Option FieldType) ∈ GT := gt_mem 1483 (by decide +kernel) rfl
theorem wg1360 : Cond.methodLink "WeighedHallModel" 192 ⟨"WeighedHallModel", "starts", "(I)V"⟩ ∈ GT := gt_mem 1480 (by decide +kernel) rfl
theorem wg1362 : Cond.instanceMethod ⟨"WeighedHallModel", "starts", "(I)V"⟩ ∈ GT := gt_mem 1482 (by decide +kernel) rfl
theorem ws83 : Cond.selects "WeighedHallModel" ⟨"WeighedHallModel", "starts", "(I)V"⟩ ⟨"WeighedHallModel", "starts", "(I)V"⟩ ∈ GT := gt_mem 83 (by decide +kernel) rfl
theorem wg1375 : Cond.code ⟨"WeighedHallModel", "clause", "()V"⟩ prog_13_method_19_code 3 (Option.none : Option FieldType) ∈ GT := gt_mem 1495 (by decide +kernel) rfl
theorem wg1372 : Cond.methodLink "WeighedHallModel" 196 ⟨"WeighedHallModel", "clause", "()V"⟩ ∈ GT := gt_mem 1492 (by decide +kernel) rfl
theorem wg1374 : Cond.instanceMethod ⟨"WeighedHallModel", "clause", "()V"⟩ ∈ GT := gt_mem 1494 (by decide +kernel) rfl
theorem ws86 : Cond.selects "WeighedHallModel" ⟨"WeighedHallModel", "clause", "()V"⟩ ⟨"WeighedHallModel", "clause", "()V"⟩ ∈ GT := gt_mem 86 (by decide +kernel) rfl
theorem d_X11_hall_0 : decode cX11_hall 0 = .ok (.aload_n 0, 1) := by decide +kernel
theorem d_X11_hall_1 : decode cX11_hall 1 = .ok (.iconst 0, 1) := by decide +kernel
theorem d_X11_hall_2 : decode cX11_hall 2 = .ok (.putfield 106, 3) := by decide +kernel
theorem d_X11_hall_5 : decode cX11_hall 5 = .ok (.aload_n 0, 1) := by decide +kernel
theorem d_X11_hall_6 : decode cX11_hall 6 = .ok (.iload_n 1, 1) := by decide +kernel
theorem d_X11_hall_7 : decode cX11_hall 7 = .ok (.iconst 0, 1) := by decide +kernel
theorem d_X11_hall_8 : decode cX11_hall 8 = .ok (.aload_n 0, 1) := by decide +kernel
theorem d_X11_hall_9 : decode cX11_hall 9 = .ok (.getfield 109, 3) := by decide +kernel
theorem d_X11_hall_12 : decode cX11_hall 12 = .ok (.invokestatic 140, 3) := by decide +kernel
theorem d_X11_hall_15 : decode cX11_hall 15 = .ok (.ifCond .ne 7, 3) := by decide +kernel
theorem d_X11_hall_18 : decode cX11_hall 18 = .ok (.iconst 1, 1) := by decide +kernel
theorem d_X11_hall_19 : decode cX11_hall 19 = .ok (.goto 4, 3) := by decide +kernel
theorem d_X11_hall_22 : decode cX11_hall 22 = .ok (.iconst 0, 1) := by decide +kernel
theorem d_X11_hall_23 : decode cX11_hall 23 = .ok (.iconst 1, 1) := by decide +kernel
theorem d_X11_hall_24 : decode cX11_hall 24 = .ok (.iconst 1, 1) := by decide +kernel
theorem d_X11_hall_25 : decode cX11_hall 25 = .ok (.invokevirtual 188, 3) := by decide +kernel
theorem d_X11_hall_28 : decode cX11_hall 28 = .ok (.ifCond .eq 5, 3) := by decide +kernel
theorem d_X11_hall_31 : decode cX11_hall 31 = .ok (.iconst 0, 1) := by decide +kernel
theorem d_X11_hall_32 : decode cX11_hall 32 = .ok (.ireturn, 1) := by decide +kernel
theorem d_X11_hall_33 : decode cX11_hall 33 = .ok (.aload_n 0, 1) := by decide +kernel
theorem d_X11_hall_34 : decode cX11_hall 34 = .ok (.iload_n 1, 1) := by decide +kernel
theorem d_X11_hall_35 : decode cX11_hall 35 = .ok (.invokevirtual 192, 3) := by decide +kernel
theorem d_X11_hall_38 : decode cX11_hall 38 = .ok (.iconst 0, 1) := by decide +kernel
theorem d_X11_hall_39 : decode cX11_hall 39 = .ok (.istore_n 2, 1) := by decide +kernel
theorem d_X11_hall_40 : decode cX11_hall 40 = .ok (.iload_n 2, 1) := by decide +kernel
theorem d_X11_hall_41 : decode cX11_hall 41 = .ok (.iconst 5, 1) := by decide +kernel
theorem d_X11_hall_42 : decode cX11_hall 42 = .ok (.if_icmp .ge 16, 3) := by decide +kernel
theorem d_X11_hall_45 : decode cX11_hall 45 = .ok (.aload_n 0, 1) := by decide +kernel
theorem d_X11_hall_46 : decode cX11_hall 46 = .ok (.getfield 20, 3) := by decide +kernel
theorem d_X11_hall_49 : decode cX11_hall 49 = .ok (.iload_n 2, 1) := by decide +kernel
theorem d_X11_hall_50 : decode cX11_hall 50 = .ok (.iconst 0, 1) := by decide +kernel
theorem d_X11_hall_51 : decode cX11_hall 51 = .ok (.iastore, 1) := by decide +kernel
theorem d_X11_hall_52 : decode cX11_hall 52 = .ok (.iinc 2 1, 3) := by decide +kernel
theorem d_X11_hall_55 : decode cX11_hall 55 = .ok (.goto (-15), 3) := by decide +kernel
theorem d_X11_hall_58 : decode cX11_hall 58 = .ok (.aload_n 0, 1) := by decide +kernel
theorem d_X11_hall_59 : decode cX11_hall 59 = .ok (.getfield 122, 3) := by decide +kernel
theorem d_X11_hall_62 : decode cX11_hall 62 = .ok (.ifCond .ne 25, 3) := by decide +kernel
theorem d_X11_hall_65 : decode cX11_hall 65 = .ok (.aload_n 0, 1) := by decide +kernel
theorem d_X11_hall_66 : decode cX11_hall 66 = .ok (.getfield 115, 3) := by decide +kernel
theorem d_X11_hall_69 : decode cX11_hall 69 = .ok (.aload_n 0, 1) := by decide +kernel
theorem d_X11_hall_70 : decode cX11_hall 70 = .ok (.getfield 112, 3) := by decide +kernel
theorem d_X11_hall_73 : decode cX11_hall 73 = .ok (.if_icmp .ge 14, 3) := by decide +kernel
theorem d_X11_hall_76 : decode cX11_hall 76 = .ok (.aload_n 0, 1) := by decide +kernel
theorem d_X11_hall_77 : decode cX11_hall 77 = .ok (.invokevirtual 196, 3) := by decide +kernel
theorem d_X11_hall_80 : decode cX11_hall 80 = .ok (.aload_n 0, 1) := by decide +kernel
theorem d_X11_hall_81 : decode cX11_hall 81 = .ok (.invokevirtual 128, 3) := by decide +kernel
theorem d_X11_hall_84 : decode cX11_hall 84 = .ok (.goto (-26), 3) := by decide +kernel
theorem d_X11_hall_87 : decode cX11_hall 87 = .ok (.aload_n 0, 1) := by decide +kernel
theorem d_X11_hall_88 : decode cX11_hall 88 = .ok (.aload_n 0, 1) := by decide +kernel
theorem d_X11_hall_89 : decode cX11_hall 89 = .ok (.getfield 125, 3) := by decide +kernel
theorem d_X11_hall_92 : decode cX11_hall 92 = .ok (.putfield 9, 3) := by decide +kernel
theorem d_X11_hall_95 : decode cX11_hall 95 = .ok (.aload_n 0, 1) := by decide +kernel
theorem d_X11_hall_96 : decode cX11_hall 96 = .ok (.getfield 122, 3) := by decide +kernel
theorem d_X11_hall_99 : decode cX11_hall 99 = .ok (.ifCond .eq 11, 3) := by decide +kernel
theorem d_X11_hall_102 : decode cX11_hall 102 = .ok (.aload_n 0, 1) := by decide +kernel
theorem d_X11_hall_103 : decode cX11_hall 103 = .ok (.getfield 122, 3) := by decide +kernel
theorem d_X11_hall_106 : decode cX11_hall 106 = .ok (.bipush 10, 2) := by decide +kernel
theorem d_X11_hall_108 : decode cX11_hall 108 = .ok (.isub, 1) := by decide +kernel
theorem d_X11_hall_109 : decode cX11_hall 109 = .ok (.ireturn, 1) := by decide +kernel
theorem d_X11_hall_110 : decode cX11_hall 110 = .ok (.iconst 0, 1) := by decide +kernel
theorem d_X11_hall_111 : decode cX11_hall 111 = .ok (.istore_n 2, 1) := by decide +kernel
theorem d_X11_hall_112 : decode cX11_hall 112 = .ok (.iload_n 2, 1) := by decide +kernel
theorem d_X11_hall_113 : decode cX11_hall 113 = .ok (.iconst 5, 1) := by decide +kernel
theorem d_X11_hall_114 : decode cX11_hall 114 = .ok (.if_icmp .ge 21, 3) := by decide +kernel
theorem d_X11_hall_117 : decode cX11_hall 117 = .ok (.aload_n 0, 1) := by decide +kernel
theorem d_X11_hall_118 : decode cX11_hall 118 = .ok (.getfield 23, 3) := by decide +kernel
theorem d_X11_hall_121 : decode cX11_hall 121 = .ok (.iload_n 2, 1) := by decide +kernel
theorem d_X11_hall_122 : decode cX11_hall 122 = .ok (.aload_n 0, 1) := by decide +kernel
theorem d_X11_hall_123 : decode cX11_hall 123 = .ok (.getfield 20, 3) := by decide +kernel
theorem d_X11_hall_126 : decode cX11_hall 126 = .ok (.iload_n 2, 1) := by decide +kernel
theorem d_X11_hall_127 : decode cX11_hall 127 = .ok (.iaload, 1) := by decide +kernel
theorem d_X11_hall_128 : decode cX11_hall 128 = .ok (.iastore, 1) := by decide +kernel
theorem d_X11_hall_129 : decode cX11_hall 129 = .ok (.iinc 2 1, 3) := by decide +kernel
theorem d_X11_hall_132 : decode cX11_hall 132 = .ok (.goto (-20), 3) := by decide +kernel
theorem d_X11_hall_135 : decode cX11_hall 135 = .ok (.iconst 0, 1) := by decide +kernel
theorem d_X11_hall_136 : decode cX11_hall 136 = .ok (.istore_n 2, 1) := by decide +kernel
theorem d_X11_hall_137 : decode cX11_hall 137 = .ok (.iload_n 2, 1) := by decide +kernel
theorem d_X11_hall_138 : decode cX11_hall 138 = .ok (.aload_n 0, 1) := by decide +kernel
theorem d_X11_hall_139 : decode cX11_hall 139 = .ok (.getfield 23, 3) := by decide +kernel
theorem d_X11_hall_142 : decode cX11_hall 142 = .ok (.iconst 0, 1) := by decide +kernel
theorem d_X11_hall_143 : decode cX11_hall 143 = .ok (.iaload, 1) := by decide +kernel
theorem d_X11_hall_144 : decode cX11_hall 144 = .ok (.if_icmp .ge 38, 3) := by decide +kernel
theorem d_X11_hall_147 : decode cX11_hall 147 = .ok (.iconst 0, 1) := by decide +kernel
theorem d_X11_hall_148 : decode cX11_hall 148 = .ok (.istore_n 3, 1) := by decide +kernel
theorem d_X11_hall_149 : decode cX11_hall 149 = .ok (.iload_n 3, 1) := by decide +kernel
theorem d_X11_hall_150 : decode cX11_hall 150 = .ok (.iconst 2, 1) := by decide +kernel
theorem d_X11_hall_151 : decode cX11_hall 151 = .ok (.if_icmp .ge 25, 3) := by decide +kernel
theorem d_X11_hall_154 : decode cX11_hall 154 = .ok (.aload_n 0, 1) := by decide +kernel
theorem d_X11_hall_155 : decode cX11_hall 155 = .ok (.getfield 31, 3) := by decide +kernel
theorem d_X11_hall_158 : decode cX11_hall 158 = .ok (.iload_n 2, 1) := by decide +kernel
theorem d_X11_hall_159 : decode cX11_hall 159 = .ok (.aaload, 1) := by decide +kernel
theorem d_X11_hall_160 : decode cX11_hall 160 = .ok (.iload_n 3, 1) := by decide +kernel
theorem d_X11_hall_161 : decode cX11_hall 161 = .ok (.aload_n 0, 1) := by decide +kernel
theorem d_X11_hall_162 : decode cX11_hall 162 = .ok (.getfield 28, 3) := by decide +kernel
theorem d_X11_hall_165 : decode cX11_hall 165 = .ok (.iload_n 2, 1) := by decide +kernel
theorem d_X11_hall_166 : decode cX11_hall 166 = .ok (.aaload, 1) := by decide +kernel
theorem d_X11_hall_167 : decode cX11_hall 167 = .ok (.iload_n 3, 1) := by decide +kernel
theorem d_X11_hall_168 : decode cX11_hall 168 = .ok (.iaload, 1) := by decide +kernel
theorem d_X11_hall_169 : decode cX11_hall 169 = .ok (.iastore, 1) := by decide +kernel
theorem d_X11_hall_170 : decode cX11_hall 170 = .ok (.iinc 3 1, 3) := by decide +kernel
theorem d_X11_hall_173 : decode cX11_hall 173 = .ok (.goto (-24), 3) := by decide +kernel
theorem d_X11_hall_176 : decode cX11_hall 176 = .ok (.iinc 2 1, 3) := by decide +kernel
theorem d_X11_hall_179 : decode cX11_hall 179 = .ok (.goto (-42), 3) := by decide +kernel
theorem d_X11_hall_182 : decode cX11_hall 182 = .ok (.iconst 0, 1) := by decide +kernel
theorem d_X11_hall_183 : decode cX11_hall 183 = .ok (.istore_n 2, 1) := by decide +kernel
theorem d_X11_hall_184 : decode cX11_hall 184 = .ok (.iload_n 2, 1) := by decide +kernel
theorem d_X11_hall_185 : decode cX11_hall 185 = .ok (.aload_n 0, 1) := by decide +kernel
theorem d_X11_hall_186 : decode cX11_hall 186 = .ok (.getfield 23, 3) := by decide +kernel
theorem d_X11_hall_189 : decode cX11_hall 189 = .ok (.iconst 1, 1) := by decide +kernel
theorem d_X11_hall_190 : decode cX11_hall 190 = .ok (.iaload, 1) := by decide +kernel
theorem d_X11_hall_191 : decode cX11_hall 191 = .ok (.if_icmp .ge 38, 3) := by decide +kernel
theorem d_X11_hall_194 : decode cX11_hall 194 = .ok (.iconst 0, 1) := by decide +kernel
theorem d_X11_hall_195 : decode cX11_hall 195 = .ok (.istore_n 3, 1) := by decide +kernel
theorem d_X11_hall_196 : decode cX11_hall 196 = .ok (.iload_n 3, 1) := by decide +kernel
theorem d_X11_hall_197 : decode cX11_hall 197 = .ok (.iconst 4, 1) := by decide +kernel
theorem d_X11_hall_198 : decode cX11_hall 198 = .ok (.if_icmp .ge 25, 3) := by decide +kernel
theorem d_X11_hall_201 : decode cX11_hall 201 = .ok (.aload_n 0, 1) := by decide +kernel
theorem d_X11_hall_202 : decode cX11_hall 202 = .ok (.getfield 37, 3) := by decide +kernel
theorem d_X11_hall_205 : decode cX11_hall 205 = .ok (.iload_n 2, 1) := by decide +kernel
theorem d_X11_hall_206 : decode cX11_hall 206 = .ok (.aaload, 1) := by decide +kernel
theorem d_X11_hall_207 : decode cX11_hall 207 = .ok (.iload_n 3, 1) := by decide +kernel
theorem d_X11_hall_208 : decode cX11_hall 208 = .ok (.aload_n 0, 1) := by decide +kernel
theorem d_X11_hall_209 : decode cX11_hall 209 = .ok (.getfield 34, 3) := by decide +kernel
theorem d_X11_hall_212 : decode cX11_hall 212 = .ok (.iload_n 2, 1) := by decide +kernel
theorem d_X11_hall_213 : decode cX11_hall 213 = .ok (.aaload, 1) := by decide +kernel
theorem d_X11_hall_214 : decode cX11_hall 214 = .ok (.iload_n 3, 1) := by decide +kernel
theorem d_X11_hall_215 : decode cX11_hall 215 = .ok (.iaload, 1) := by decide +kernel
theorem d_X11_hall_216 : decode cX11_hall 216 = .ok (.iastore, 1) := by decide +kernel
theorem d_X11_hall_217 : decode cX11_hall 217 = .ok (.iinc 3 1, 3) := by decide +kernel
theorem d_X11_hall_220 : decode cX11_hall 220 = .ok (.goto (-24), 3) := by decide +kernel
theorem d_X11_hall_223 : decode cX11_hall 223 = .ok (.iinc 2 1, 3) := by decide +kernel
theorem d_X11_hall_226 : decode cX11_hall 226 = .ok (.goto (-42), 3) := by decide +kernel
theorem d_X11_hall_229 : decode cX11_hall 229 = .ok (.iconst 0, 1) := by decide +kernel
theorem d_X11_hall_230 : decode cX11_hall 230 = .ok (.istore_n 2, 1) := by decide +kernel
theorem d_X11_hall_231 : decode cX11_hall 231 = .ok (.iload_n 2, 1) := by decide +kernel
theorem d_X11_hall_232 : decode cX11_hall 232 = .ok (.aload_n 0, 1) := by decide +kernel
theorem d_X11_hall_233 : decode cX11_hall 233 = .ok (.getfield 23, 3) := by decide +kernel
theorem d_X11_hall_236 : decode cX11_hall 236 = .ok (.iconst 2, 1) := by decide +kernel
theorem d_X11_hall_237 : decode cX11_hall 237 = .ok (.iaload, 1) := by decide +kernel
theorem d_X11_hall_238 : decode cX11_hall 238 = .ok (.if_icmp .ge 21, 3) := by decide +kernel
theorem d_X11_hall_241 : decode cX11_hall 241 = .ok (.aload_n 0, 1) := by decide +kernel
theorem d_X11_hall_242 : decode cX11_hall 242 = .ok (.getfield 55, 3) := by decide +kernel
theorem d_X11_hall_245 : decode cX11_hall 245 = .ok (.iload_n 2, 1) := by decide +kernel
theorem d_X11_hall_246 : decode cX11_hall 246 = .ok (.aload_n 0, 1) := by decide +kernel
theorem d_X11_hall_247 : decode cX11_hall 247 = .ok (.getfield 52, 3) := by decide +kernel
theorem d_X11_hall_250 : decode cX11_hall 250 = .ok (.iload_n 2, 1) := by decide +kernel
theorem d_X11_hall_251 : decode cX11_hall 251 = .ok (.iaload, 1) := by decide +kernel
theorem d_X11_hall_252 : decode cX11_hall 252 = .ok (.iastore, 1) := by decide +kernel
theorem d_X11_hall_253 : decode cX11_hall 253 = .ok (.iinc 2 1, 3) := by decide +kernel
theorem d_X11_hall_256 : decode cX11_hall 256 = .ok (.goto (-25), 3) := by decide +kernel
theorem d_X11_hall_259 : decode cX11_hall 259 = .ok (.iconst 0, 1) := by decide +kernel
theorem d_X11_hall_260 : decode cX11_hall 260 = .ok (.istore_n 2, 1) := by decide +kernel
theorem d_X11_hall_261 : decode cX11_hall 261 = .ok (.iload_n 2, 1) := by decide +kernel
theorem d_X11_hall_262 : decode cX11_hall 262 = .ok (.aload_n 0, 1) := by decide +kernel
theorem d_X11_hall_263 : decode cX11_hall 263 = .ok (.getfield 23, 3) := by decide +kernel
theorem d_X11_hall_266 : decode cX11_hall 266 = .ok (.iconst 3, 1) := by decide +kernel
theorem d_X11_hall_267 : decode cX11_hall 267 = .ok (.iaload, 1) := by decide +kernel
theorem d_X11_hall_268 : decode cX11_hall 268 = .ok (.if_icmp .ge 38, 3) := by decide +kernel
theorem d_X11_hall_271 : decode cX11_hall 271 = .ok (.iconst 0, 1) := by decide +kernel
theorem d_X11_hall_272 : decode cX11_hall 272 = .ok (.istore_n 3, 1) := by decide +kernel
theorem d_X11_hall_273 : decode cX11_hall 273 = .ok (.iload_n 3, 1) := by decide +kernel
theorem d_X11_hall_274 : decode cX11_hall 274 = .ok (.iconst 3, 1) := by decide +kernel
theorem d_X11_hall_275 : decode cX11_hall 275 = .ok (.if_icmp .ge 25, 3) := by decide +kernel
theorem d_X11_hall_278 : decode cX11_hall 278 = .ok (.aload_n 0, 1) := by decide +kernel
theorem d_X11_hall_279 : decode cX11_hall 279 = .ok (.getfield 43, 3) := by decide +kernel
theorem d_X11_hall_282 : decode cX11_hall 282 = .ok (.iload_n 2, 1) := by decide +kernel
theorem d_X11_hall_283 : decode cX11_hall 283 = .ok (.aaload, 1) := by decide +kernel
theorem d_X11_hall_284 : decode cX11_hall 284 = .ok (.iload_n 3, 1) := by decide +kernel
theorem d_X11_hall_285 : decode cX11_hall 285 = .ok (.aload_n 0, 1) := by decide +kernel
theorem d_X11_hall_286 : decode cX11_hall 286 = .ok (.getfield 40, 3) := by decide +kernel
theorem d_X11_hall_289 : decode cX11_hall 289 = .ok (.iload_n 2, 1) := by decide +kernel
theorem d_X11_hall_290 : decode cX11_hall 290 = .ok (.aaload, 1) := by decide +kernel
theorem d_X11_hall_291 : decode cX11_hall 291 = .ok (.iload_n 3, 1) := by decide +kernel
theorem d_X11_hall_292 : decode cX11_hall 292 = .ok (.iaload, 1) := by decide +kernel
theorem d_X11_hall_293 : decode cX11_hall 293 = .ok (.iastore, 1) := by decide +kernel
theorem d_X11_hall_294 : decode cX11_hall 294 = .ok (.iinc 3 1, 3) := by decide +kernel
theorem d_X11_hall_297 : decode cX11_hall 297 = .ok (.goto (-24), 3) := by decide +kernel
theorem d_X11_hall_300 : decode cX11_hall 300 = .ok (.iinc 2 1, 3) := by decide +kernel
theorem d_X11_hall_303 : decode cX11_hall 303 = .ok (.goto (-42), 3) := by decide +kernel
theorem d_X11_hall_306 : decode cX11_hall 306 = .ok (.aload_n 0, 1) := by decide +kernel
theorem d_X11_hall_307 : decode cX11_hall 307 = .ok (.iconst 0, 1) := by decide +kernel
theorem d_X11_hall_308 : decode cX11_hall 308 = .ok (.putfield 199, 3) := by decide +kernel
theorem d_X11_hall_311 : decode cX11_hall 311 = .ok (.aload_n 0, 1) := by decide +kernel
theorem d_X11_hall_312 : decode cX11_hall 312 = .ok (.iconst 0, 1) := by decide +kernel
theorem d_X11_hall_313 : decode cX11_hall 313 = .ok (.putfield 202, 3) := by decide +kernel
theorem d_X11_hall_316 : decode cX11_hall 316 = .ok (.aload_n 0, 1) := by decide +kernel
theorem d_X11_hall_317 : decode cX11_hall 317 = .ok (.iconst 0, 1) := by decide +kernel
theorem d_X11_hall_318 : decode cX11_hall 318 = .ok (.putfield 205, 3) := by decide +kernel
theorem d_X11_hall_321 : decode cX11_hall 321 = .ok (.aload_n 0, 1) := by decide +kernel
theorem d_X11_hall_322 : decode cX11_hall 322 = .ok (.getfield 23, 3) := by decide +kernel
theorem d_X11_hall_325 : decode cX11_hall 325 = .ok (.iconst 0, 1) := by decide +kernel
theorem d_X11_hall_326 : decode cX11_hall 326 = .ok (.iaload, 1) := by decide +kernel
theorem d_X11_hall_327 : decode cX11_hall 327 = .ok (.ireturn, 1) := by decide +kernel
set_option maxRecDepth 100000 in
theorem L_X11_hall {p : Program} {l : Launch} {e : Env} {s : State} {m : MethodId} {args : Array Value} {below : List Frame} {meth : Method} {c : Code} {D : va_G} {ca : Nat → ClassId} {ad sx sy : Nat → Nat} {A : Nat → Prop} {Q : QT} (C0 : CX p s m args meth c cX11_hall 4 yX11_hall.cls D ca ad A) (hE : EX sx sy A s s.heap) (hr : meth.sig.returnType = (some .int)) (hno : ∀ x ∈ c.exceptionTable.toList, False) : R_X11_hall (JW p l e { frames := 16, cells := 0, slots := 6 * 0, locals := 328 } s m args below meth c 4 D ca ad A (vx_MQ below (Qn D ca ad A Q) (Qx D ca ad A Q) args s 0 (6 * 0) A) gz gz true) Q := ⟨s_aln C0 (d_X11_hall_0) hgz (s_ic C0 (d_X11_hall_1) hgz (s_pi C0 (j := 0) (c0 := 11) rfl gX11 tyX11_ok nmX11 (by decide) rfl (by decide) rfl rfl wg1201 (d_X11_hall_2) hgz (s_aln C0 (d_X11_hall_5) hgz (s_iln C0 (d_X11_hall_6) hgz (s_ic C0 (d_X11_hall_7) hgz (s_aln C0 (d_X11_hall_8) hgz (s_gi C0 (j := 1) (c0 := 11) rfl gX11 (by decide) rfl (by decide) wg1202 (d_X11_hall_9) hgz (s_callS C0 hE (c_X11_in l) wg1355 wg1353 wg1354 wg12 ⟨by decide, by decide⟩ (by decide +kernel) ⟨by decide, by decide⟩ ⟨by decide, by decide⟩ (d_X11_hall_12) (fun x hx => (hno x hx).elim) ⟨by decide, by decide⟩ ⟨by decide, by decide⟩ (s_zne C0 (d_X11_hall_15) (by decide) hgz hgz (fun _ _ _ h => h) (s_ic C0 (d_X11_hall_18) hgz (s_goto C0 (tgt := 23) (d_X11_hall_19) (by decide) hgz (fun _ _ _ h => h)) (okn rfl)))))) (okn rfl))))) (okn rfl)),
  s_ic C0 (d_X11_hall_22) hgz (fun _ _ _ h => h) (okn rfl),
  s_ic C0 (d_X11_hall_23) hgz (s_ic C0 (d_X11_hall_24) hgz (s_callV C0 hE (c_X11_bad l) wg1359 wg1356 wg1358 ws82 wg12 ⟨by decide, by decide⟩ (by decide +kernel) (c0 := 11) rfl ⟨by decide, by decide⟩ ⟨by decide, by decide⟩ (d_X11_hall_25) (fun x hx => (hno x hx).elim) ⟨by decide, by decide⟩ ⟨by decide, by decide⟩ (s_zeq C0 (d_X11_hall_28) (by decide) hgz hgz (fun _ _ _ h => h) (s_ic C0 (d_X11_hall_31) hgz (s_ri C0 hr (d_X11_hall_32) ⟨by decide, by decide⟩) (okn rfl)))) (okn rfl)) (okn rfl),
  s_aln C0 (d_X11_hall_33) hgz (s_iln C0 (d_X11_hall_34) hgz (s_callV C0 hE (c_X11_starts l) wg1363 wg1360 wg1362 ws83 wg12 ⟨by decide, by decide⟩ (by decide +kernel) (c0 := 11) rfl ⟨by decide, by decide⟩ ⟨by decide, by decide⟩ (d_X11_hall_35) (fun x hx => (hno x hx).elim) ⟨by decide, by decide⟩ ⟨by decide, by decide⟩ (s_ic C0 (d_X11_hall_38) hgz (s_isn C0 (d_X11_hall_39) hgz (fun _ _ _ h => h)) (okn rfl)))),
  s_iln C0 (d_X11_hall_40) hgz (s_ic C0 (d_X11_hall_41) hgz (s_cge C0 (d_X11_hall_42) (by decide) hgz hgz (fun _ _ _ h => h) (s_aln C0 (d_X11_hall_45) hgz (s_gr C0 (j := 10) (c0 := 11) rfl gX11 (by decide) rfl rfl wg1211 (d_X11_hall_46) hgz (s_iln C0 (d_X11_hall_49) hgz (s_ic C0 (d_X11_hall_50) hgz (s_iax C0 (d_X11_hall_51) hgz (s_inc C0 (d_X11_hall_52) hgz (s_goto C0 (tgt := 40) (d_X11_hall_55) (by decide) hgz (fun _ _ _ h => h)))) (okn rfl)))))) (okn rfl)),
  s_aln C0 (d_X11_hall_58) hgz (s_gi C0 (j := 5) (c0 := 11) rfl gX11 (by decide) rfl (by decide) wg1206 (d_X11_hall_59) hgz (s_zne C0 (d_X11_hall_62) (by decide) hgz hgz (fun _ _ _ h => h) (s_aln C0 (d_X11_hall_65) hgz (s_gi C0 (j := 4) (c0 := 11) rfl gX11 (by decide) rfl (by decide) wg1205 (d_X11_hall_66) hgz (s_aln C0 (d_X11_hall_69) hgz (s_gi C0 (j := 2) (c0 := 11) rfl gX11 (by decide) rfl (by decide) wg1203 (d_X11_hall_70) hgz (s_cge C0 (d_X11_hall_73) (by decide) hgz hgz (fun _ _ _ h => h) (s_aln C0 (d_X11_hall_76) hgz (s_callV C0 hE (c_X11_clause l) wg1375 wg1372 wg1374 ws86 wg12 ⟨by decide, by decide⟩ (by decide +kernel) (c0 := 11) rfl ⟨by decide, by decide⟩ ⟨by decide, by decide⟩ (d_X11_hall_77) (fun x hx => (hno x hx).elim) ⟨by decide, by decide⟩ ⟨by decide, by decide⟩ (s_aln C0 (d_X11_hall_80) hgz (s_callV C0 hE (c_X11_blanks l) wg1367 wg1364 wg1366 ws84 wg12 ⟨by decide, by decide⟩ (by decide +kernel) (c0 := 11) rfl ⟨by decide, by decide⟩ ⟨by decide, by decide⟩ (d_X11_hall_81) (fun x hx => (hno x hx).elim) ⟨by decide, by decide⟩ ⟨by decide, by decide⟩ (s_goto C0 (tgt := 58) (d_X11_hall_84) (by decide) hgz (fun _ _ _ h => h))))))))))))),
  s_aln C0 (d_X11_hall_87) hgz (s_aln C0 (d_X11_hall_88) hgz (s_gi C0 (j := 6) (c0 := 11) rfl gX11 (by decide) rfl (by decide) wg1207 (d_X11_hall_89) hgz (s_pi C0 (j := 3) (c0 := 11) rfl gX11 tyX11_ok nmX11 (by decide) rfl (by decide) rfl rfl wg1204 (d_X11_hall_92) hgz (s_aln C0 (d_X11_hall_95) hgz (s_gi C0 (j := 5) (c0 := 11) rfl gX11 (by decide) rfl (by decide) wg1206 (d_X11_hall_96) hgz (s_zeq C0 (d_X11_hall_99) (by decide) hgz hgz (fun _ _ _ h => h) (s_aln C0 (d_X11_hall_102) hgz (s_gi C0 (j := 5) (c0 := 11) rfl gX11 (by decide) rfl (by decide) wg1206 (d_X11_hall_103) hgz (s_bi C0 (d_X11_hall_106) hgz (s_sub C0 (d_X11_hall_108) hgz (s_ri C0 hr (d_X11_hall_109) ⟨by decide, by decide⟩)) (okn rfl) rfl))))))))),
  s_ic C0 (d_X11_hall_110) hgz (s_isn C0 (d_X11_hall_111) hgz (fun _ _ _ h => h)) (okn rfl),
  s_iln C0 (d_X11_hall_112) hgz (s_ic C0 (d_X11_hall_113) hgz (s_cge C0 (d_X11_hall_114) (by decide) hgz hgz (fun _ _ _ h => h) (s_aln C0 (d_X11_hall_117) hgz (s_gr C0 (j := 11) (c0 := 11) rfl gX11 (by decide) rfl rfl wg1212 (d_X11_hall_118) hgz (s_iln C0 (d_X11_hall_121) hgz (s_aln C0 (d_X11_hall_122) hgz (s_gr C0 (j := 10) (c0 := 11) rfl gX11 (by decide) rfl rfl wg1211 (d_X11_hall_123) hgz (s_iln C0 (d_X11_hall_126) hgz (s_ia C0 (d_X11_hall_127) hgz (s_iax C0 (d_X11_hall_128) hgz (s_inc C0 (d_X11_hall_129) hgz (s_goto C0 (tgt := 112) (d_X11_hall_132) (by decide) hgz (fun _ _ _ h => h)))))))))))) (okn rfl)),
  s_ic C0 (d_X11_hall_135) hgz (s_isn C0 (d_X11_hall_136) hgz (fun _ _ _ h => h)) (okn rfl),
  s_iln C0 (d_X11_hall_137) hgz (s_aln C0 (d_X11_hall_138) hgz (s_gr C0 (j := 11) (c0 := 11) rfl gX11 (by decide) rfl rfl wg1212 (d_X11_hall_139) hgz (s_ic C0 (d_X11_hall_142) hgz (s_ia C0 (d_X11_hall_143) hgz (s_cge C0 (d_X11_hall_144) (by decide) hgz hgz (fun _ _ _ h => h) (s_ic C0 (d_X11_hall_147) hgz (s_isn C0 (d_X11_hall_148) hgz (fun _ _ _ h => h)) (okn rfl)))) (okn rfl)))),
  s_iln C0 (d_X11_hall_149) hgz (s_ic C0 (d_X11_hall_150) hgz (s_cge C0 (d_X11_hall_151) (by decide) hgz hgz (fun _ _ _ h => h) (s_aln C0 (d_X11_hall_154) hgz (s_gr C0 (j := 13) (c0 := 11) rfl gX11 (by decide) rfl rfl wg1214 (d_X11_hall_155) hgz (s_iln C0 (d_X11_hall_158) hgz (s_aa C0 (by decide) (by decide) rfl rfl (d_X11_hall_159) hgz (s_iln C0 (d_X11_hall_160) hgz (s_aln C0 (d_X11_hall_161) hgz (s_gr C0 (j := 12) (c0 := 11) rfl gX11 (by decide) rfl rfl wg1213 (d_X11_hall_162) hgz (s_iln C0 (d_X11_hall_165) hgz (s_aa C0 (by decide) (by decide) rfl rfl (d_X11_hall_166) hgz (s_iln C0 (d_X11_hall_167) hgz (s_ia C0 (d_X11_hall_168) hgz (s_iax C0 (d_X11_hall_169) hgz (s_inc C0 (d_X11_hall_170) hgz (s_goto C0 (tgt := 149) (d_X11_hall_173) (by decide) hgz (fun _ _ _ h => h)))))))))))))))) (okn rfl)),
  s_inc C0 (d_X11_hall_176) hgz (s_goto C0 (tgt := 137) (d_X11_hall_179) (by decide) hgz (fun _ _ _ h => h)),
  s_ic C0 (d_X11_hall_182) hgz (s_isn C0 (d_X11_hall_183) hgz (fun _ _ _ h => h)) (okn rfl),
  s_iln C0 (d_X11_hall_184) hgz (s_aln C0 (d_X11_hall_185) hgz (s_gr C0 (j := 11) (c0 := 11) rfl gX11 (by decide) rfl rfl wg1212 (d_X11_hall_186) hgz (s_ic C0 (d_X11_hall_189) hgz (s_ia C0 (d_X11_hall_190) hgz (s_cge C0 (d_X11_hall_191) (by decide) hgz hgz (fun _ _ _ h => h) (s_ic C0 (d_X11_hall_194) hgz (s_isn C0 (d_X11_hall_195) hgz (fun _ _ _ h => h)) (okn rfl)))) (okn rfl)))),
  s_iln C0 (d_X11_hall_196) hgz (s_ic C0 (d_X11_hall_197) hgz (s_cge C0 (d_X11_hall_198) (by decide) hgz hgz (fun _ _ _ h => h) (s_aln C0 (d_X11_hall_201) hgz (s_gr C0 (j := 15) (c0 := 11) rfl gX11 (by decide) rfl rfl wg1216 (d_X11_hall_202) hgz (s_iln C0 (d_X11_hall_205) hgz (s_aa C0 (by decide) (by decide) rfl rfl (d_X11_hall_206) hgz (s_iln C0 (d_X11_hall_207) hgz (s_aln C0 (d_X11_hall_208) hgz (s_gr C0 (j := 14) (c0 := 11) rfl gX11 (by decide) rfl rfl wg1215 (d_X11_hall_209) hgz (s_iln C0 (d_X11_hall_212) hgz (s_aa C0 (by decide) (by decide) rfl rfl (d_X11_hall_213) hgz (s_iln C0 (d_X11_hall_214) hgz (s_ia C0 (d_X11_hall_215) hgz (s_iax C0 (d_X11_hall_216) hgz (s_inc C0 (d_X11_hall_217) hgz (s_goto C0 (tgt := 196) (d_X11_hall_220) (by decide) hgz (fun _ _ _ h => h)))))))))))))))) (okn rfl)),
  s_inc C0 (d_X11_hall_223) hgz (s_goto C0 (tgt := 184) (d_X11_hall_226) (by decide) hgz (fun _ _ _ h => h)),
  s_ic C0 (d_X11_hall_229) hgz (s_isn C0 (d_X11_hall_230) hgz (fun _ _ _ h => h)) (okn rfl),
  s_iln C0 (d_X11_hall_231) hgz (s_aln C0 (d_X11_hall_232) hgz (s_gr C0 (j := 11) (c0 := 11) rfl gX11 (by decide) rfl rfl wg1212 (d_X11_hall_233) hgz (s_ic C0 (d_X11_hall_236) hgz (s_ia C0 (d_X11_hall_237) hgz (s_cge C0 (d_X11_hall_238) (by decide) hgz hgz (fun _ _ _ h => h) (s_aln C0 (d_X11_hall_241) hgz (s_gr C0 (j := 21) (c0 := 11) rfl gX11 (by decide) rfl rfl wg1222 (d_X11_hall_242) hgz (s_iln C0 (d_X11_hall_245) hgz (s_aln C0 (d_X11_hall_246) hgz (s_gr C0 (j := 20) (c0 := 11) rfl gX11 (by decide) rfl rfl wg1221 (d_X11_hall_247) hgz (s_iln C0 (d_X11_hall_250) hgz (s_ia C0 (d_X11_hall_251) hgz (s_iax C0 (d_X11_hall_252) hgz (s_inc C0 (d_X11_hall_253) hgz (s_goto C0 (tgt := 231) (d_X11_hall_256) (by decide) hgz (fun _ _ _ h => h))))))))))))) (okn rfl)))),
  s_ic C0 (d_X11_hall_259) hgz (s_isn C0 (d_X11_hall_260) hgz (fun _ _ _ h => h)) (okn rfl),
  s_iln C0 (d_X11_hall_261) hgz (s_aln C0 (d_X11_hall_262) hgz (s_gr C0 (j := 11) (c0 := 11) rfl gX11 (by decide) rfl rfl wg1212 (d_X11_hall_263) hgz (s_ic C0 (d_X11_hall_266) hgz (s_ia C0 (d_X11_hall_267) hgz (s_cge C0 (d_X11_hall_268) (by decide) hgz hgz (fun _ _ _ h => h) (s_ic C0 (d_X11_hall_271) hgz (s_isn C0 (d_X11_hall_272) hgz (fun _ _ _ h => h)) (okn rfl)))) (okn rfl)))),
  s_iln C0 (d_X11_hall_273) hgz (s_ic C0 (d_X11_hall_274) hgz (s_cge C0 (d_X11_hall_275) (by decide) hgz hgz (fun _ _ _ h => h) (s_aln C0 (d_X11_hall_278) hgz (s_gr C0 (j := 17) (c0 := 11) rfl gX11 (by decide) rfl rfl wg1218 (d_X11_hall_279) hgz (s_iln C0 (d_X11_hall_282) hgz (s_aa C0 (by decide) (by decide) rfl rfl (d_X11_hall_283) hgz (s_iln C0 (d_X11_hall_284) hgz (s_aln C0 (d_X11_hall_285) hgz (s_gr C0 (j := 16) (c0 := 11) rfl gX11 (by decide) rfl rfl wg1217 (d_X11_hall_286) hgz (s_iln C0 (d_X11_hall_289) hgz (s_aa C0 (by decide) (by decide) rfl rfl (d_X11_hall_290) hgz (s_iln C0 (d_X11_hall_291) hgz (s_ia C0 (d_X11_hall_292) hgz (s_iax C0 (d_X11_hall_293) hgz (s_inc C0 (d_X11_hall_294) hgz (s_goto C0 (tgt := 273) (d_X11_hall_297) (by decide) hgz (fun _ _ _ h => h)))))))))))))))) (okn rfl)),
  s_inc C0 (d_X11_hall_300) hgz (s_goto C0 (tgt := 261) (d_X11_hall_303) (by decide) hgz (fun _ _ _ h => h)),
  s_aln C0 (d_X11_hall_306) hgz (s_ic C0 (d_X11_hall_307) hgz (s_pi C0 (j := 22) (c0 := 11) rfl gX11 tyX11_ok nmX11 (by decide) rfl (by decide) rfl rfl wg1223 (d_X11_hall_308) hgz (s_aln C0 (d_X11_hall_311) hgz (s_ic C0 (d_X11_hall_312) hgz (s_pi C0 (j := 23) (c0 := 11) rfl gX11 tyX11_ok nmX11 (by decide) rfl (by decide) rfl rfl wg1224 (d_X11_hall_313) hgz (s_aln C0 (d_X11_hall_316) hgz (s_ic C0 (d_X11_hall_317) hgz (s_pi C0 (j := 24) (c0 := 11) rfl gX11 tyX11_ok nmX11 (by decide) rfl (by decide) rfl rfl wg1225 (d_X11_hall_318) hgz (s_aln C0 (d_X11_hall_321) hgz (s_gr C0 (j := 11) (c0 := 11) rfl gX11 (by decide) rfl rfl wg1212 (d_X11_hall_322) hgz (s_ic C0 (d_X11_hall_325) hgz (s_ia C0 (d_X11_hall_326) hgz (s_ri C0 hr (d_X11_hall_327) ⟨by decide, by decide⟩)) (okn rfl))))) (okn rfl)))) (okn rfl)))) (okn rfl))⟩
theorem c_X11_hall (l : Launch) : Ctr l yX11_hall cX11_hall 4 (some .int) 16 328 0 (fun sx => (nf G_X11_hall)) := ctr_of (by decide) gz gz ⟨rfl, rfl⟩ (fun p e s m args below meth c D ca ad sx sy A Q as M C0 hE hr hno hF => P_X11_hall (L_X11_hall C0 hE hr hno) hF)
theorem d_X11_isMinute_0 : decode cX11_isMinute 0 = .ok (.iload_n 0, 1) := by decide +kernel
theorem d_X11_isMinute_1 : decode cX11_isMinute 1 = .ok (.iconst 0, 1) := by decide +kernel
theorem d_X11_isMinute_2 : decode cX11_isMinute 2 = .ok (.bipush 119, 2) := by decide +kernel
theorem d_X11_isMinute_4 : decode cX11_isMinute 4 = .ok (.invokestatic 140, 3) := by decide +kernel
theorem d_X11_isMinute_7 : decode cX11_isMinute 7 = .ok (.ireturn, 1) := by decide +kernel
set_option maxRecDepth 100000 in
theorem L_X11_isMinute {p : Program} {l : Launch} {e : Env} {s : State} {m : MethodId} {args : Array Value} {below : List Frame} {meth : Method} {c : Code} {D : va_G} {ca : Nat → ClassId} {ad sx sy : Nat → Nat} {A : Nat → Prop} {Q : QT} (C0 : CX p s m args meth c cX11_isMinute 1 yX11_isMinute.cls D ca ad A) (hE : EX sx sy A s s.heap) (hr : meth.sig.returnType = (some .boolean)) (hno : ∀ x ∈ c.exceptionTable.toList, False) : R_X11_isMinute (JW p l e { frames := 11, cells := 0, slots := 6 * 0, locals := 222 } s m args below meth c 1 D ca ad A (vx_MQ below (Qn D ca ad A Q) (Qx D ca ad A Q) args s 0 (6 * 0) A) gz gz true) Q := s_iln C0 (d_X11_isMinute_0) hgz (s_ic C0 (d_X11_isMinute_1) hgz (s_bi C0 (d_X11_isMinute_2) hgz (s_callS C0 hE (c_X11_in l) wg1355 wg1353 wg1354 wg12 ⟨by decide, by decide⟩ (by decide +kernel) ⟨by decide, by decide⟩ ⟨by decide, by decide⟩ (d_X11_isMinute_4) (fun x hx => (hno x hx).elim) ⟨by decide, by decide⟩ ⟨by decide, by decide⟩ (s_rz C0 hr (d_X11_isMinute_7) ⟨by decide, by decide⟩)) (okn rfl) rfl) (okn rfl))
theorem c_X11_isMinute (l : Launch) : Ctr l yX11_isMinute cX11_isMinute 1 (some .boolean) 11 222 0 (fun sx => (nf G_X11_isMinute)) := ctr_of (by decide) gz gz ⟨rfl, rfl⟩ (fun p e s m args below meth c D ca ad sx sy A Q as M C0 hE hr hno hF => P_X11_isMinute (L_X11_isMinute C0 hE hr hno) hF)
theorem wg1472 : Cond.code ⟨"WeighedHallModel", "isMinute", "(I)Z"⟩ prog_13_method_44_code 1 (Option.some .boolean) ∈ GT := gt_mem 1592 (by decide +kernel) rfl
theorem wg1470 : Cond.methodLink "WeighedHallModel" 263 ⟨"WeighedHallModel", "isMinute", "(I)Z"⟩ ∈ GT := gt_mem 1590 (by decide +kernel) rfl
theorem wg1471 : Cond.static ⟨"WeighedHallModel", "isMinute", "(I)Z"⟩ ∈ GT := gt_mem 1591 (by decide +kernel) rfl
theorem d_X11_holds_0 : decode cX11_holds 0 = .ok (.aload_n 0, 1) := by decide +kernel
theorem d_X11_holds_1 : decode cX11_holds 1 = .ok (.iconst 0, 1) := by decide +kernel
theorem d_X11_holds_2 : decode cX11_holds 2 = .ok (.putfield 106, 3) := by decide +kernel
theorem d_X11_holds_5 : decode cX11_holds 5 = .ok (.aload_n 0, 1) := by decide +kernel
theorem d_X11_holds_6 : decode cX11_holds 6 = .ok (.aload_n 0, 1) := by decide +kernel
theorem d_X11_holds_7 : decode cX11_holds 7 = .ok (.iload_n 1, 1) := by decide +kernel
theorem d_X11_holds_8 : decode cX11_holds 8 = .ok (.invokevirtual 220, 3) := by decide +kernel
theorem d_X11_holds_11 : decode cX11_holds 11 = .ok (.ifCond .ne 7, 3) := by decide +kernel
theorem d_X11_holds_14 : decode cX11_holds 14 = .ok (.iconst 1, 1) := by decide +kernel
theorem d_X11_holds_15 : decode cX11_holds 15 = .ok (.goto 4, 3) := by decide +kernel
theorem d_X11_holds_18 : decode cX11_holds 18 = .ok (.iconst 0, 1) := by decide +kernel
theorem d_X11_holds_19 : decode cX11_holds 19 = .ok (.iconst 1, 1) := by decide +kernel
theorem d_X11_holds_20 : decode cX11_holds 20 = .ok (.iconst 0, 1) := by decide +kernel
theorem d_X11_holds_21 : decode cX11_holds 21 = .ok (.invokevirtual 188, 3) := by decide +kernel
theorem d_X11_holds_24 : decode cX11_holds 24 = .ok (.ifCond .ne 24, 3) := by decide +kernel
theorem d_X11_holds_27 : decode cX11_holds 27 = .ok (.aload_n 0, 1) := by decide +kernel
theorem d_X11_holds_28 : decode cX11_holds 28 = .ok (.iload_n 2, 1) := by decide +kernel
theorem d_X11_holds_29 : decode cX11_holds 29 = .ok (.invokestatic 263, 3) := by decide +kernel
theorem d_X11_holds_32 : decode cX11_holds 32 = .ok (.ifCond .ne 7, 3) := by decide +kernel
theorem d_X11_holds_35 : decode cX11_holds 35 = .ok (.iconst 1, 1) := by decide +kernel
theorem d_X11_holds_36 : decode cX11_holds 36 = .ok (.goto 4, 3) := by decide +kernel
theorem d_X11_holds_39 : decode cX11_holds 39 = .ok (.iconst 0, 1) := by decide +kernel
theorem d_X11_holds_40 : decode cX11_holds 40 = .ok (.iconst 2, 1) := by decide +kernel
theorem d_X11_holds_41 : decode cX11_holds 41 = .ok (.iconst 1, 1) := by decide +kernel
theorem d_X11_holds_42 : decode cX11_holds 42 = .ok (.invokevirtual 188, 3) := by decide +kernel
theorem d_X11_holds_45 : decode cX11_holds 45 = .ok (.ifCond .eq 5, 3) := by decide +kernel
theorem d_X11_holds_48 : decode cX11_holds 48 = .ok (.iconst 0, 1) := by decide +kernel
theorem d_X11_holds_49 : decode cX11_holds 49 = .ok (.ireturn, 1) := by decide +kernel
theorem d_X11_holds_50 : decode cX11_holds 50 = .ok (.aload_n 0, 1) := by decide +kernel
theorem d_X11_holds_51 : decode cX11_holds 51 = .ok (.ldc_w 259, 3) := by decide +kernel
theorem d_X11_holds_54 : decode cX11_holds 54 = .ok (.putfield 229, 3) := by decide +kernel
theorem d_X11_holds_57 : decode cX11_holds 57 = .ok (.aload_n 0, 1) := by decide +kernel
theorem d_X11_holds_58 : decode cX11_holds 58 = .ok (.iload_n 2, 1) := by decide +kernel
theorem d_X11_holds_59 : decode cX11_holds 59 = .ok (.invokevirtual 260, 3) := by decide +kernel
theorem d_X11_holds_62 : decode cX11_holds 62 = .ok (.aload_n 0, 1) := by decide +kernel
theorem d_X11_holds_63 : decode cX11_holds 63 = .ok (.getfield 64, 3) := by decide +kernel
theorem d_X11_holds_66 : decode cX11_holds 66 = .ok (.iload_n 1, 1) := by decide +kernel
theorem d_X11_holds_67 : decode cX11_holds 67 = .ok (.iaload, 1) := by decide +kernel
theorem d_X11_holds_68 : decode cX11_holds 68 = .ok (.ireturn, 1) := by decide +kernel
set_option maxRecDepth 100000 in
theorem L_X11_holds {p : Program} {l : Launch} {e : Env} {s : State} {m : MethodId} {args : Array Value} {below : List Frame} {meth : Method} {c : Code} {D : va_G} {ca : Nat → ClassId} {ad sx sy : Nat → Nat} {A : Nat → Prop} {Q : QT} (C0 : CX p s m args meth c cX11_holds 3 yX11_holds.cls D ca ad A) (hE : EX sx sy A s s.heap) (hr : meth.sig.returnType = (some .int)) (hno : ∀ x ∈ c.exceptionTable.toList, False) : R_X11_holds (JW p l e { frames := 14, cells := 0, slots := 6 * 0, locals := 292 } s m args below meth c 3 D ca ad A (vx_MQ below (Qn D ca ad A Q) (Qx D ca ad A Q) args s 0 (6 * 0) A) gz gz true) Q := ⟨s_aln C0 (d_X11_holds_0) hgz (s_ic C0 (d_X11_holds_1) hgz (s_pi C0 (j := 0) (c0 := 11) rfl gX11 tyX11_ok nmX11 (by decide) rfl (by decide) rfl rfl wg1201 (d_X11_holds_2) hgz (s_aln C0 (d_X11_holds_5) hgz (s_aln C0 (d_X11_holds_6) hgz (s_iln C0 (d_X11_holds_7) hgz (s_callV C0 hE (c_X11_isThing l) wg1458 wg1455 wg1457 ws99 wg12 ⟨by decide, by decide⟩ (by decide +kernel) (c0 := 11) rfl ⟨by decide, by decide⟩ ⟨by decide, by decide⟩ (d_X11_holds_8) (fun x hx => (hno x hx).elim) ⟨by decide, by decide⟩ ⟨by decide, by decide⟩ (s_zne C0 (d_X11_holds_11) (by decide) hgz hgz (fun _ _ _ h => h) (s_ic C0 (d_X11_holds_14) hgz (s_goto C0 (tgt := 19) (d_X11_holds_15) (by decide) hgz (fun _ _ _ h => h)) (okn rfl)))))))) (okn rfl)),
  s_ic C0 (d_X11_holds_18) hgz (fun _ _ _ h => h) (okn rfl),
  s_ic C0 (d_X11_holds_19) hgz (s_ic C0 (d_X11_holds_20) hgz (s_callV C0 hE (c_X11_bad l) wg1359 wg1356 wg1358 ws82 wg12 ⟨by decide, by decide⟩ (by decide +kernel) (c0 := 11) rfl ⟨by decide, by decide⟩ ⟨by decide, by decide⟩ (d_X11_holds_21) (fun x hx => (hno x hx).elim) ⟨by decide, by decide⟩ ⟨by decide, by decide⟩ (s_zne C0 (d_X11_holds_24) (by decide) hgz hgz (fun _ _ _ h => h) (s_aln C0 (d_X11_holds_27) hgz (s_iln C0 (d_X11_holds_28) hgz (s_callS C0 hE (c_X11_isMinute l) wg1472 wg1470 wg1471 wg12 ⟨by decide, by decide⟩ (by decide +kernel) ⟨by decide, by decide⟩ ⟨by decide, by decide⟩ (d_X11_holds_29) (fun x hx => (hno x hx).elim) ⟨by decide, by decide⟩ ⟨by decide, by decide⟩ (s_zne C0 (d_X11_holds_32) (by decide) hgz hgz (fun _ _ _ h => h) (s_ic C0 (d_X11_holds_35) hgz (s_goto C0 (tgt := 40) (d_X11_holds_36) (by decide) hgz (fun _ _ _ h => h)) (okn rfl)))))))) (okn rfl)) (okn rfl),
  s_ic C0 (d_X11_holds_39) hgz (fun _ _ _ h => h) (okn rfl),
  s_ic C0 (d_X11_holds_40) hgz (s_ic C0 (d_X11_holds_41) hgz (s_callV C0 hE (c_X11_bad l) wg1359 wg1356 wg1358 ws82 wg12 ⟨by decide, by decide⟩ (by decide +kernel) (c0 := 11) rfl ⟨by decide, by decide⟩ ⟨by decide, by decide⟩ (d_X11_holds_42) (fun x hx => (hno x hx).elim) ⟨by decide, by decide⟩ ⟨by decide, by decide⟩ (s_zeq C0 (d_X11_holds_45) (by decide) hgz hgz (fun _ _ _ h => h) (fun _ _ _ h => h))) (okn rfl)) (okn rfl),
  s_ic C0 (d_X11_holds_48) hgz (s_ri C0 hr (d_X11_holds_49) ⟨by decide, by decide⟩) (okn rfl),
  s_aln C0 (d_X11_holds_50) hgz (s_ldcw C0 (n := 1000000) wg1473 (d_X11_holds_51) hgz (s_pi C0 (j := 36) (c0 := 11) rfl gX11 tyX11_ok nmX11 (by decide) rfl (by decide) rfl rfl wg1237 (d_X11_holds_54) hgz (s_aln C0 (d_X11_holds_57) hgz (s_iln C0 (d_X11_holds_58) hgz (s_callV C0 hE (c_X11_goes l) wg1477 wg1474 wg1476 ws101 wg12 ⟨by decide, by decide⟩ (by decide +kernel) (c0 := 11) rfl ⟨by decide, by decide⟩ ⟨by decide, by decide⟩ (d_X11_holds_59) (fun x hx => (hno x hx).elim) ⟨by decide, by decide⟩ ⟨by decide, by decide⟩ (s_aln C0 (d_X11_holds_62) hgz (s_gr C0 (j := 28) (c0 := 11) rfl gX11 (by decide) rfl rfl wg1229 (d_X11_holds_63) hgz (s_iln C0 (d_X11_holds_66) hgz (s_ia C0 (d_X11_holds_67) hgz (s_ri C0 hr (d_X11_holds_68) ⟨by decide, by decide⟩))))))))) (okn rfl))⟩
theorem c_X11_holds (l : Launch) : Ctr l yX11_holds cX11_holds 3 (some .int) 14 292 0 (fun sx => (nf G_X11_holds)) := ctr_of (by decide) gz gz ⟨rfl, rfl⟩ (fun p e s m args below meth c D ca ad sx sy A Q as M C0 hE hr hno hF => P_X11_holds (L_X11_holds C0 hE hr hno) hF)
theorem d_X11_ones_0 : decode cX11_ones 0 = .ok (.iconst 0, 1) := by decide +kernel
theorem d_X11_ones_1 : decode cX11_ones 1 = .ok (.istore_n 1, 1) := by decide +kernel
theorem d_X11_ones_2 : decode cX11_ones 2 = .ok (.iload_n 0, 1) := by decide +kernel
theorem d_X11_ones_3 : decode cX11_ones 3 = .ok (.istore_n 2, 1) := by decide +kernel
theorem d_X11_ones_4 : decode cX11_ones 4 = .ok (.iload_n 2, 1) := by decide +kernel
theorem d_X11_ones_5 : decode cX11_ones 5 = .ok (.ifCond .eq 15, 3) := by decide +kernel
theorem d_X11_ones_8 : decode cX11_ones 8 = .ok (.iload_n 2, 1) := by decide +kernel
theorem d_X11_ones_9 : decode cX11_ones 9 = .ok (.iload_n 2, 1) := by decide +kernel
theorem d_X11_ones_10 : decode cX11_ones 10 = .ok (.iconst 1, 1) := by decide +kernel
theorem d_X11_ones_11 : decode cX11_ones 11 = .ok (.isub, 1) := by decide +kernel
theorem d_X11_ones_12 : decode cX11_ones 12 = .ok (.iand, 1) := by decide +kernel
theorem d_X11_ones_13 : decode cX11_ones 13 = .ok (.istore_n 2, 1) := by decide +kernel
theorem d_X11_ones_14 : decode cX11_ones 14 = .ok (.iinc 1 1, 3) := by decide +kernel
theorem d_X11_ones_17 : decode cX11_ones 17 = .ok (.goto (-13), 3) := by decide +kernel
theorem d_X11_ones_20 : decode cX11_ones 20 = .ok (.iload_n 1, 1) := by decide +kernel
theorem d_X11_ones_21 : decode cX11_ones 21 = .ok (.ireturn, 1) := by decide +kernel
set_option maxRecDepth 100000 in
theorem L_X11_ones {p : Program} {l : Launch} {e : Env} {s : State} {m : MethodId} {args : Array Value} {below : List Frame} {meth : Method} {c : Code} {D : va_G} {ca : Nat → ClassId} {ad sx sy : Nat → Nat} {A : Nat → Prop} {Q : QT} (C0 : CX p s m args meth c cX11_ones 3 yX11_ones.cls D ca ad A) (hE : EX sx sy A s s.heap) (hr : meth.sig.returnType = (some .int)) (hno : ∀ x ∈ c.exceptionTable.toList, False) : R_X11_ones (JW p l e { frames := 10, cells := 0, slots := 6 * 0, locals := 200 } s m args below meth c 3 D ca ad A (vx_MQ below (Qn D ca ad A Q) (Qx D ca ad A Q) args s 0 (6 * 0) A) gz gz true) Q := ⟨s_ic C0 (d_X11_ones_0) hgz (s_isn C0 (d_X11_ones_1) hgz (s_iln C0 (d_X11_ones_2) hgz (s_isn C0 (d_X11_ones_3) hgz (fun _ _ _ h => h)))) (okn rfl),
  s_iln C0 (d_X11_ones_4) hgz (s_zeq C0 (d_X11_ones_5) (by decide) hgz hgz (fun _ _ _ h => h) (s_iln C0 (d_X11_ones_8) hgz (s_iln C0 (d_X11_ones_9) hgz (s_ic C0 (d_X11_ones_10) hgz (s_sub C0 (d_X11_ones_11) hgz (s_and C0 (d_X11_ones_12) hgz (s_isn C0 (d_X11_ones_13) hgz (s_inc C0 (d_X11_ones_14) hgz (s_goto C0 (tgt := 4) (d_X11_ones_17) (by decide) hgz (fun _ _ _ h => h)))))) (okn rfl))))),
  s_iln C0 (d_X11_ones_20) hgz (s_ri C0 hr (d_X11_ones_21) ⟨by decide, by decide⟩)⟩
theorem c_X11_ones (l : Launch) : Ctr l yX11_ones cX11_ones 3 (some .int) 10 200 0 (fun sx => (nf G_X11_ones)) := ctr_of (by decide) gz gz ⟨rfl, rfl⟩ (fun p e s m args below meth c D ca ad sx sy A Q as M C0 hE hr hno hF => P_X11_ones (L_X11_ones C0 hE hr hno) hF)
theorem wg1617 : Cond.code ⟨"WeighedHallModel", "areRight", "(I)Z"⟩ prog_13_method_70_code 6 (Option.some .boolean) ∈ GT := gt_mem 1737 (by decide +kernel) rfl
theorem wg1614 : Cond.methodLink "WeighedHallModel" 302 ⟨"WeighedHallModel", "areRight", "(I)Z"⟩ ∈ GT := gt_mem 1734 (by decide +kernel) rfl
theorem wg1616 : Cond.instanceMethod ⟨"WeighedHallModel", "areRight", "(I)Z"⟩ ∈ GT := gt_mem 1736 (by decide +kernel) rfl
theorem ws116 : Cond.selects "WeighedHallModel" ⟨"WeighedHallModel", "areRight", "(I)Z"⟩ ⟨"WeighedHallModel", "areRight", "(I)Z"⟩ ∈ GT := gt_mem 116 (by decide +kernel) rfl
theorem wg1546 : Cond.code ⟨"WeighedHallModel", "ones", "(I)I"⟩ prog_13_method_52_code 3 (Option.some .int) ∈ GT := gt_mem 1666 (by decide +kernel) rfl
theorem wg1544 : Cond.methodLink "WeighedHallModel" 278 ⟨"WeighedHallModel", "ones", "(I)I"⟩ ∈ GT := gt_mem 1664 (by decide +kernel) rfl
theorem wg1545 : Cond.static ⟨"WeighedHallModel", "ones", "(I)I"⟩ ∈ GT := gt_mem 1665 (by decide +kernel) rfl
theorem d_X11_hollow_0 : decode cX11_hollow 0 = .ok (.aload_n 0, 1) := by decide +kernel
theorem d_X11_hollow_1 : decode cX11_hollow 1 = .ok (.iconst 0, 1) := by decide +kernel
theorem d_X11_hollow_2 : decode cX11_hollow 2 = .ok (.putfield 106, 3) := by decide +kernel
theorem d_X11_hollow_5 : decode cX11_hollow 5 = .ok (.aload_n 0, 1) := by decide +kernel
theorem d_X11_hollow_6 : decode cX11_hollow 6 = .ok (.iload_n 1, 1) := by decide +kernel
theorem d_X11_hollow_7 : decode cX11_hollow 7 = .ok (.iconst 0, 1) := by decide +kernel
theorem d_X11_hollow_8 : decode cX11_hollow 8 = .ok (.iconst 4, 1) := by decide +kernel
theorem d_X11_hollow_9 : decode cX11_hollow 9 = .ok (.invokestatic 140, 3) := by decide +kernel
theorem d_X11_hollow_12 : decode cX11_hollow 12 = .ok (.ifCond .ne 7, 3) := by decide +kernel
theorem d_X11_hollow_15 : decode cX11_hollow 15 = .ok (.iconst 1, 1) := by decide +kernel
theorem d_X11_hollow_16 : decode cX11_hollow 16 = .ok (.goto 4, 3) := by decide +kernel
theorem d_X11_hollow_19 : decode cX11_hollow 19 = .ok (.iconst 0, 1) := by decide +kernel
theorem d_X11_hollow_20 : decode cX11_hollow 20 = .ok (.iconst 1, 1) := by decide +kernel
theorem d_X11_hollow_21 : decode cX11_hollow 21 = .ok (.iconst 1, 1) := by decide +kernel
theorem d_X11_hollow_22 : decode cX11_hollow 22 = .ok (.invokevirtual 188, 3) := by decide +kernel
theorem d_X11_hollow_25 : decode cX11_hollow 25 = .ok (.ifCond .eq 5, 3) := by decide +kernel
theorem d_X11_hollow_28 : decode cX11_hollow 28 = .ok (.iconst 0, 1) := by decide +kernel
theorem d_X11_hollow_29 : decode cX11_hollow 29 = .ok (.ireturn, 1) := by decide +kernel
theorem d_X11_hollow_30 : decode cX11_hollow 30 = .ok (.iconst 0, 1) := by decide +kernel
theorem d_X11_hollow_31 : decode cX11_hollow 31 = .ok (.istore_n 2, 1) := by decide +kernel
theorem d_X11_hollow_32 : decode cX11_hollow 32 = .ok (.iconst 1, 1) := by decide +kernel
theorem d_X11_hollow_33 : decode cX11_hollow 33 = .ok (.aload_n 0, 1) := by decide +kernel
theorem d_X11_hollow_34 : decode cX11_hollow 34 = .ok (.getfield 23, 3) := by decide +kernel
theorem d_X11_hollow_37 : decode cX11_hollow 37 = .ok (.iconst 1, 1) := by decide +kernel
theorem d_X11_hollow_38 : decode cX11_hollow 38 = .ok (.iaload, 1) := by decide +kernel
theorem d_X11_hollow_39 : decode cX11_hollow 39 = .ok (.ishl, 1) := by decide +kernel
theorem d_X11_hollow_40 : decode cX11_hollow 40 = .ok (.iconst 1, 1) := by decide +kernel
theorem d_X11_hollow_41 : decode cX11_hollow 41 = .ok (.isub, 1) := by decide +kernel
theorem d_X11_hollow_42 : decode cX11_hollow 42 = .ok (.istore_n 3, 1) := by decide +kernel
theorem d_X11_hollow_43 : decode cX11_hollow 43 = .ok (.iconst 0, 1) := by decide +kernel
theorem d_X11_hollow_44 : decode cX11_hollow 44 = .ok (.istore 4, 2) := by decide +kernel
theorem d_X11_hollow_46 : decode cX11_hollow 46 = .ok (.iconst (-1), 1) := by decide +kernel
theorem d_X11_hollow_47 : decode cX11_hollow 47 = .ok (.istore 5, 2) := by decide +kernel
theorem d_X11_hollow_49 : decode cX11_hollow 49 = .ok (.iconst 0, 1) := by decide +kernel
theorem d_X11_hollow_50 : decode cX11_hollow 50 = .ok (.istore 6, 2) := by decide +kernel
theorem d_X11_hollow_52 : decode cX11_hollow 52 = .ok (.iload 6, 2) := by decide +kernel
theorem d_X11_hollow_54 : decode cX11_hollow 54 = .ok (.iconst 1, 1) := by decide +kernel
theorem d_X11_hollow_55 : decode cX11_hollow 55 = .ok (.aload_n 0, 1) := by decide +kernel
theorem d_X11_hollow_56 : decode cX11_hollow 56 = .ok (.getfield 23, 3) := by decide +kernel
theorem d_X11_hollow_59 : decode cX11_hollow 59 = .ok (.iconst 1, 1) := by decide +kernel
theorem d_X11_hollow_60 : decode cX11_hollow 60 = .ok (.iaload, 1) := by decide +kernel
theorem d_X11_hollow_61 : decode cX11_hollow 61 = .ok (.ishl, 1) := by decide +kernel
theorem d_X11_hollow_62 : decode cX11_hollow 62 = .ok (.if_icmp .ge 64, 3) := by decide +kernel
theorem d_X11_hollow_65 : decode cX11_hollow 65 = .ok (.aload_n 0, 1) := by decide +kernel
theorem d_X11_hollow_66 : decode cX11_hollow 66 = .ok (.iload 6, 2) := by decide +kernel
theorem d_X11_hollow_68 : decode cX11_hollow 68 = .ok (.invokevirtual 302, 3) := by decide +kernel
theorem d_X11_hollow_71 : decode cX11_hollow 71 = .ok (.ifCond .ne 6, 3) := by decide +kernel
theorem d_X11_hollow_74 : decode cX11_hollow 74 = .ok (.goto 46, 3) := by decide +kernel
theorem d_X11_hollow_77 : decode cX11_hollow 77 = .ok (.iinc 2 1, 3) := by decide +kernel
theorem d_X11_hollow_80 : decode cX11_hollow 80 = .ok (.iload_n 3, 1) := by decide +kernel
theorem d_X11_hollow_81 : decode cX11_hollow 81 = .ok (.iload 6, 2) := by decide +kernel
theorem d_X11_hollow_83 : decode cX11_hollow 83 = .ok (.iand, 1) := by decide +kernel
theorem d_X11_hollow_84 : decode cX11_hollow 84 = .ok (.istore_n 3, 1) := by decide +kernel
theorem d_X11_hollow_85 : decode cX11_hollow 85 = .ok (.iload 4, 2) := by decide +kernel
theorem d_X11_hollow_87 : decode cX11_hollow 87 = .ok (.iload 6, 2) := by decide +kernel
theorem d_X11_hollow_89 : decode cX11_hollow 89 = .ok (.ior, 1) := by decide +kernel
theorem d_X11_hollow_90 : decode cX11_hollow 90 = .ok (.istore 4, 2) := by decide +kernel
theorem d_X11_hollow_92 : decode cX11_hollow 92 = .ok (.iload 5, 2) := by decide +kernel
theorem d_X11_hollow_94 : decode cX11_hollow 94 = .ok (.iconst (-1), 1) := by decide +kernel
theorem d_X11_hollow_95 : decode cX11_hollow 95 = .ok (.if_icmp .eq 16, 3) := by decide +kernel
theorem d_X11_hollow_98 : decode cX11_hollow 98 = .ok (.iload 6, 2) := by decide +kernel
theorem d_X11_hollow_100 : decode cX11_hollow 100 = .ok (.invokestatic 278, 3) := by decide +kernel
theorem d_X11_hollow_103 : decode cX11_hollow 103 = .ok (.iload 5, 2) := by decide +kernel
theorem d_X11_hollow_105 : decode cX11_hollow 105 = .ok (.invokestatic 278, 3) := by decide +kernel
theorem d_X11_hollow_108 : decode cX11_hollow 108 = .ok (.if_icmp .ge 8, 3) := by decide +kernel
theorem d_X11_hollow_111 : decode cX11_hollow 111 = .ok (.iload 6, 2) := by decide +kernel
theorem d_X11_hollow_113 : decode cX11_hollow 113 = .ok (.goto 5, 3) := by decide +kernel
theorem d_X11_hollow_116 : decode cX11_hollow 116 = .ok (.iload 5, 2) := by decide +kernel
theorem d_X11_hollow_118 : decode cX11_hollow 118 = .ok (.istore 5, 2) := by decide +kernel
theorem d_X11_hollow_120 : decode cX11_hollow 120 = .ok (.iinc 6 1, 3) := by decide +kernel
theorem d_X11_hollow_123 : decode cX11_hollow 123 = .ok (.goto (-71), 3) := by decide +kernel
theorem d_X11_hollow_126 : decode cX11_hollow 126 = .ok (.iload_n 1, 1) := by decide +kernel
theorem d_X11_hollow_127 : decode cX11_hollow 127 = .ok (.iconst 2, 1) := by decide +kernel
theorem d_X11_hollow_128 : decode cX11_hollow 128 = .ok (.if_icmp .le 29, 3) := by decide +kernel
theorem d_X11_hollow_131 : decode cX11_hollow 131 = .ok (.iload 5, 2) := by decide +kernel
theorem d_X11_hollow_133 : decode cX11_hollow 133 = .ok (.iconst (-1), 1) := by decide +kernel
theorem d_X11_hollow_134 : decode cX11_hollow 134 = .ok (.if_icmp .ne 7, 3) := by decide +kernel
theorem d_X11_hollow_137 : decode cX11_hollow 137 = .ok (.iconst (-1), 1) := by decide +kernel
theorem d_X11_hollow_138 : decode cX11_hollow 138 = .ok (.goto 18, 3) := by decide +kernel
theorem d_X11_hollow_141 : decode cX11_hollow 141 = .ok (.iload_n 1, 1) := by decide +kernel
theorem d_X11_hollow_142 : decode cX11_hollow 142 = .ok (.iconst 3, 1) := by decide +kernel
theorem d_X11_hollow_143 : decode cX11_hollow 143 = .ok (.if_icmp .ne 11, 3) := by decide +kernel
theorem d_X11_hollow_146 : decode cX11_hollow 146 = .ok (.iload 5, 2) := by decide +kernel
theorem d_X11_hollow_148 : decode cX11_hollow 148 = .ok (.invokestatic 278, 3) := by decide +kernel
theorem d_X11_hollow_151 : decode cX11_hollow 151 = .ok (.goto 5, 3) := by decide +kernel
theorem d_X11_hollow_154 : decode cX11_hollow 154 = .ok (.iload 5, 2) := by decide +kernel
theorem d_X11_hollow_156 : decode cX11_hollow 156 = .ok (.ireturn, 1) := by decide +kernel
theorem d_X11_hollow_157 : decode cX11_hollow 157 = .ok (.iload_n 1, 1) := by decide +kernel
theorem d_X11_hollow_158 : decode cX11_hollow 158 = .ok (.ifCond .ne 7, 3) := by decide +kernel
theorem d_X11_hollow_161 : decode cX11_hollow 161 = .ok (.iload_n 2, 1) := by decide +kernel
theorem d_X11_hollow_162 : decode cX11_hollow 162 = .ok (.goto 35, 3) := by decide +kernel
theorem d_X11_hollow_165 : decode cX11_hollow 165 = .ok (.iload_n 2, 1) := by decide +kernel
theorem d_X11_hollow_166 : decode cX11_hollow 166 = .ok (.ifCond .ne 7, 3) := by decide +kernel
theorem d_X11_hollow_169 : decode cX11_hollow 169 = .ok (.iconst 0, 1) := by decide +kernel
theorem d_X11_hollow_170 : decode cX11_hollow 170 = .ok (.goto 27, 3) := by decide +kernel
theorem d_X11_hollow_173 : decode cX11_hollow 173 = .ok (.iload_n 1, 1) := by decide +kernel
theorem d_X11_hollow_174 : decode cX11_hollow 174 = .ok (.iconst 1, 1) := by decide +kernel
theorem d_X11_hollow_175 : decode cX11_hollow 175 = .ok (.if_icmp .ne 7, 3) := by decide +kernel
theorem d_X11_hollow_178 : decode cX11_hollow 178 = .ok (.iload_n 3, 1) := by decide +kernel
theorem d_X11_hollow_179 : decode cX11_hollow 179 = .ok (.goto 18, 3) := by decide +kernel
theorem d_X11_hollow_182 : decode cX11_hollow 182 = .ok (.iconst 1, 1) := by decide +kernel
theorem d_X11_hollow_183 : decode cX11_hollow 183 = .ok (.aload_n 0, 1) := by decide +kernel
theorem d_X11_hollow_184 : decode cX11_hollow 184 = .ok (.getfield 23, 3) := by decide +kernel
theorem d_X11_hollow_187 : decode cX11_hollow 187 = .ok (.iconst 1, 1) := by decide +kernel
theorem d_X11_hollow_188 : decode cX11_hollow 188 = .ok (.iaload, 1) := by decide +kernel
theorem d_X11_hollow_189 : decode cX11_hollow 189 = .ok (.ishl, 1) := by decide +kernel
theorem d_X11_hollow_190 : decode cX11_hollow 190 = .ok (.iconst 1, 1) := by decide +kernel
theorem d_X11_hollow_191 : decode cX11_hollow 191 = .ok (.isub, 1) := by decide +kernel
theorem d_X11_hollow_192 : decode cX11_hollow 192 = .ok (.iload 4, 2) := by decide +kernel
theorem d_X11_hollow_194 : decode cX11_hollow 194 = .ok (.iconst (-1), 1) := by decide +kernel
theorem d_X11_hollow_195 : decode cX11_hollow 195 = .ok (.ixor, 1) := by decide +kernel
theorem d_X11_hollow_196 : decode cX11_hollow 196 = .ok (.iand, 1) := by decide +kernel
theorem d_X11_hollow_197 : decode cX11_hollow 197 = .ok (.ireturn, 1) := by decide +kernel
set_option maxRecDepth 100000 in
theorem L_X11_hollow {p : Program} {l : Launch} {e : Env} {s : State} {m : MethodId} {args : Array Value} {below : List Frame} {meth : Method} {c : Code} {D : va_G} {ca : Nat → ClassId} {ad sx sy : Nat → Nat} {A : Nat → Prop} {Q : QT} (C0 : CX p s m args meth c cX11_hollow 7 yX11_hollow.cls D ca ad A) (hE : EX sx sy A s s.heap) (hr : meth.sig.returnType = (some .int)) (hno : ∀ x ∈ c.exceptionTable.toList, False) : R_X11_hollow (JW p l e { frames := 11, cells := 0, slots := 6 * 0, locals := 225 } s m args below meth c 7 D ca ad A (vx_MQ below (Qn D ca ad A Q) (Qx D ca ad A Q) args s 0 (6 * 0) A) gz gz true) Q := ⟨s_aln C0 (d_X11_hollow_0) hgz (s_ic C0 (d_X11_hollow_1) hgz (s_pi C0 (j := 0) (c0 := 11) rfl gX11 tyX11_ok nmX11 (by decide) rfl (by decide) rfl rfl wg1201 (d_X11_hollow_2) hgz (s_aln C0 (d_X11_hollow_5) hgz (s_iln C0 (d_X11_hollow_6) hgz (s_ic C0 (d_X11_hollow_7) hgz (s_ic C0 (d_X11_hollow_8) hgz (s_callS C0 hE (c_X11_in l) wg1355 wg1353 wg1354 wg12 ⟨by decide, by decide⟩ (by decide +kernel) ⟨by decide, by decide⟩ ⟨by decide, by decide⟩ (d_X11_hollow_9) (fun x hx => (hno x hx).elim) ⟨by decide, by decide⟩ ⟨by decide, by decide⟩ (s_zne C0 (d_X11_hollow_12) (by decide) hgz hgz (fun _ _ _ h => h) (s_ic C0 (d_X11_hollow_15) hgz (s_goto C0 (tgt := 20) (d_X11_hollow_16) (by decide) hgz (fun _ _ _ h => h)) (okn rfl)))) (okn rfl)) (okn rfl))))) (okn rfl)),
  s_ic C0 (d_X11_hollow_19) hgz (fun _ _ _ h => h) (okn rfl),
  s_ic C0 (d_X11_hollow_20) hgz (s_ic C0 (d_X11_hollow_21) hgz (s_callV C0 hE (c_X11_bad l) wg1359 wg1356 wg1358 ws82 wg12 ⟨by decide, by decide⟩ (by decide +kernel) (c0 := 11) rfl ⟨by decide, by decide⟩ ⟨by decide, by decide⟩ (d_X11_hollow_22) (fun x hx => (hno x hx).elim) ⟨by decide, by decide⟩ ⟨by decide, by decide⟩ (s_zeq C0 (d_X11_hollow_25) (by decide) hgz hgz (fun _ _ _ h => h) (s_ic C0 (d_X11_hollow_28) hgz (s_ri C0 hr (d_X11_hollow_29) ⟨by decide, by decide⟩) (okn rfl)))) (okn rfl)) (okn rfl),
  s_ic C0 (d_X11_hollow_30) hgz (s_isn C0 (d_X11_hollow_31) hgz (s_ic C0 (d_X11_hollow_32) hgz (s_aln C0 (d_X11_hollow_33) hgz (s_gr C0 (j := 11) (c0 := 11) rfl gX11 (by decide) rfl rfl wg1212 (d_X11_hollow_34) hgz (s_ic C0 (d_X11_hollow_37) hgz (s_ia C0 (d_X11_hollow_38) hgz (s_shl C0 (d_X11_hollow_39) hgz (s_ic C0 (d_X11_hollow_40) hgz (s_sub C0 (d_X11_hollow_41) hgz (s_isn C0 (d_X11_hollow_42) hgz (s_ic C0 (d_X11_hollow_43) hgz (s_is C0 (d_X11_hollow_44) hgz (s_ic C0 (d_X11_hollow_46) hgz (s_is C0 (d_X11_hollow_47) hgz (s_ic C0 (d_X11_hollow_49) hgz (s_is C0 (d_X11_hollow_50) hgz (fun _ _ _ h => h)) (okn rfl))) (okn rfl))) (okn rfl)))) (okn rfl)))) (okn rfl)))) (okn rfl))) (okn rfl),
  s_il C0 (d_X11_hollow_52) hgz (s_ic C0 (d_X11_hollow_54) hgz (s_aln C0 (d_X11_hollow_55) hgz (s_gr C0 (j := 11) (c0 := 11) rfl gX11 (by decide) rfl rfl wg1212 (d_X11_hollow_56) hgz (s_ic C0 (d_X11_hollow_59) hgz (s_ia C0 (d_X11_hollow_60) hgz (s_shl C0 (d_X11_hollow_61) hgz (s_cge C0 (d_X11_hollow_62) (by decide) hgz hgz (fun _ _ _ h => h) (s_aln C0 (d_X11_hollow_65) hgz (s_il C0 (d_X11_hollow_66) hgz (s_callV C0 hE (c_X11_areRight l) wg1617 wg1614 wg1616 ws116 wg12 ⟨by decide, by decide⟩ (by decide +kernel) (c0 := 11) rfl ⟨by decide, by decide⟩ ⟨by decide, by decide⟩ (d_X11_hollow_68) (fun x hx => (hno x hx).elim) ⟨by decide, by decide⟩ ⟨by decide, by decide⟩ (s_zne C0 (d_X11_hollow_71) (by decide) hgz hgz (fun _ _ _ h => h) (s_goto C0 (tgt := 120) (d_X11_hollow_74) (by decide) hgz (fun _ _ _ h => h))))))))) (okn rfl)))) (okn rfl)),
  s_inc C0 (d_X11_hollow_77) hgz (s_iln C0 (d_X11_hollow_80) hgz (s_il C0 (d_X11_hollow_81) hgz (s_and C0 (d_X11_hollow_83) hgz (s_isn C0 (d_X11_hollow_84) hgz (s_il C0 (d_X11_hollow_85) hgz (s_il C0 (d_X11_hollow_87) hgz (s_or C0 (d_X11_hollow_89) hgz (s_is C0 (d_X11_hollow_90) hgz (s_il C0 (d_X11_hollow_92) hgz (s_ic C0 (d_X11_hollow_94) hgz (s_ceq C0 (d_X11_hollow_95) (by decide) hgz hgz (fun _ _ _ h => h) (s_il C0 (d_X11_hollow_98) hgz (s_callS C0 hE (c_X11_ones l) wg1546 wg1544 wg1545 wg12 ⟨by decide, by decide⟩ (by decide +kernel) ⟨by decide, by decide⟩ ⟨by decide, by decide⟩ (d_X11_hollow_100) (fun x hx => (hno x hx).elim) ⟨by decide, by decide⟩ ⟨by decide, by decide⟩ (s_il C0 (d_X11_hollow_103) hgz (s_callS C0 hE (c_X11_ones l) wg1546 wg1544 wg1545 wg12 ⟨by decide, by decide⟩ (by decide +kernel) ⟨by decide, by decide⟩ ⟨by decide, by decide⟩ (d_X11_hollow_105) (fun x hx => (hno x hx).elim) ⟨by decide, by decide⟩ ⟨by decide, by decide⟩ (s_cge C0 (d_X11_hollow_108) (by decide) hgz hgz (fun _ _ _ h => h) (fun _ _ _ h => h))))))) (okn rfl))))))))))),
  s_il C0 (d_X11_hollow_111) hgz (s_goto C0 (tgt := 118) (d_X11_hollow_113) (by decide) hgz (fun _ _ _ h => h)),
  s_il C0 (d_X11_hollow_116) hgz (fun _ _ _ h => h),
  s_is C0 (d_X11_hollow_118) hgz (fun _ _ _ h => h),
  s_inc C0 (d_X11_hollow_120) hgz (s_goto C0 (tgt := 52) (d_X11_hollow_123) (by decide) hgz (fun _ _ _ h => h)),
  s_iln C0 (d_X11_hollow_126) hgz (s_ic C0 (d_X11_hollow_127) hgz (s_cle C0 (d_X11_hollow_128) (by decide) hgz hgz (fun _ _ _ h => h) (s_il C0 (d_X11_hollow_131) hgz (s_ic C0 (d_X11_hollow_133) hgz (s_cne C0 (d_X11_hollow_134) (by decide) hgz hgz (fun _ _ _ h => h) (s_ic C0 (d_X11_hollow_137) hgz (s_goto C0 (tgt := 156) (d_X11_hollow_138) (by decide) hgz (fun _ _ _ h => h)) (okn rfl))) (okn rfl)))) (okn rfl)),
  s_iln C0 (d_X11_hollow_141) hgz (s_ic C0 (d_X11_hollow_142) hgz (s_cne C0 (d_X11_hollow_143) (by decide) hgz hgz (fun _ _ _ h => h) (s_il C0 (d_X11_hollow_146) hgz (s_callS C0 hE (c_X11_ones l) wg1546 wg1544 wg1545 wg12 ⟨by decide, by decide⟩ (by decide +kernel) ⟨by decide, by decide⟩ ⟨by decide, by decide⟩ (d_X11_hollow_148) (fun x hx => (hno x hx).elim) ⟨by decide, by decide⟩ ⟨by decide, by decide⟩ (s_goto C0 (tgt := 156) (d_X11_hollow_151) (by decide) hgz (fun _ _ _ h => h))))) (okn rfl)),
  s_il C0 (d_X11_hollow_154) hgz (fun _ _ _ h => h),
  s_ri C0 hr (d_X11_hollow_156) ⟨by decide, by decide⟩,
  s_iln C0 (d_X11_hollow_157) hgz (s_zne C0 (d_X11_hollow_158) (by decide) hgz hgz (fun _ _ _ h => h) (s_iln C0 (d_X11_hollow_161) hgz (s_goto C0 (tgt := 197) (d_X11_hollow_162) (by decide) hgz (fun _ _ _ h => h)))),
  s_iln C0 (d_X11_hollow_165) hgz (s_zne C0 (d_X11_hollow_166) (by decide) hgz hgz (fun _ _ _ h => h) (s_ic C0 (d_X11_hollow_169) hgz (s_goto C0 (tgt := 197) (d_X11_hollow_170) (by decide) hgz (fun _ _ _ h => h)) (okn rfl))),
  s_iln C0 (d_X11_hollow_173) hgz (s_ic C0 (d_X11_hollow_174) hgz (s_cne C0 (d_X11_hollow_175) (by decide) hgz hgz (fun _ _ _ h => h) (s_iln C0 (d_X11_hollow_178) hgz (s_goto C0 (tgt := 197) (d_X11_hollow_179) (by decide) hgz (fun _ _ _ h => h)))) (okn rfl)),
  s_ic C0 (d_X11_hollow_182) hgz (s_aln C0 (d_X11_hollow_183) hgz (s_gr C0 (j := 11) (c0 := 11) rfl gX11 (by decide) rfl rfl wg1212 (d_X11_hollow_184) hgz (s_ic C0 (d_X11_hollow_187) hgz (s_ia C0 (d_X11_hollow_188) hgz (s_shl C0 (d_X11_hollow_189) hgz (s_ic C0 (d_X11_hollow_190) hgz (s_sub C0 (d_X11_hollow_191) hgz (s_il C0 (d_X11_hollow_192) hgz (s_ic C0 (d_X11_hollow_194) hgz (s_xor C0 (d_X11_hollow_195) hgz (s_and C0 (d_X11_hollow_196) hgz (fun _ _ _ h => h))) (okn rfl)))) (okn rfl)))) (okn rfl)))) (okn rfl),
  s_ri C0 hr (d_X11_hollow_197) ⟨by decide, by decide⟩⟩
theorem c_X11_hollow (l : Launch) : Ctr l yX11_hollow cX11_hollow 7 (some .int) 11 225 0 (fun sx => (nf G_X11_hollow)) := ctr_of (by decide) gz gz ⟨rfl, rfl⟩ (fun p e s m args below meth c D ca ad sx sy A Q as M C0 hE hr hno hF => P_X11_hollow (L_X11_hollow C0 hE hr hno) hF)
theorem wg1226 : Cond.fieldLink "WeighedHallModel" 309 "WeighedHallModel" "spot" "I" ∈ GT := gt_mem 1346 (by decide +kernel) rfl
theorem d_X11_moves_0 : decode cX11_moves 0 = .ok (.iload_n 3, 1) := by decide +kernel
theorem d_X11_moves_1 : decode cX11_moves 1 = .ok (.ifCond .ne 10, 3) := by decide +kernel
theorem d_X11_moves_4 : decode cX11_moves 4 = .ok (.aload_n 1, 1) := by decide +kernel
theorem d_X11_moves_5 : decode cX11_moves 5 = .ok (.aload_n 0, 1) := by decide +kernel
theorem d_X11_moves_6 : decode cX11_moves 6 = .ok (.getfield 309, 3) := by decide +kernel
theorem d_X11_moves_9 : decode cX11_moves 9 = .ok (.iload_n 2, 1) := by decide +kernel
theorem d_X11_moves_10 : decode cX11_moves 10 = .ok (.iastore, 1) := by decide +kernel
theorem d_X11_moves_11 : decode cX11_moves 11 = .ok (.aload_n 0, 1) := by decide +kernel
theorem d_X11_moves_12 : decode cX11_moves 12 = .ok (.dup, 1) := by decide +kernel
theorem d_X11_moves_13 : decode cX11_moves 13 = .ok (.getfield 309, 3) := by decide +kernel
theorem d_X11_moves_16 : decode cX11_moves 16 = .ok (.iconst 1, 1) := by decide +kernel
theorem d_X11_moves_17 : decode cX11_moves 17 = .ok (.iadd, 1) := by decide +kernel
theorem d_X11_moves_18 : decode cX11_moves 18 = .ok (.putfield 309, 3) := by decide +kernel
theorem d_X11_moves_21 : decode cX11_moves 21 = .ok (.aload_n 1, 1) := by decide +kernel
theorem d_X11_moves_22 : decode cX11_moves 22 = .ok (.aload_n 0, 1) := by decide +kernel
theorem d_X11_moves_23 : decode cX11_moves 23 = .ok (.getfield 309, 3) := by decide +kernel
theorem d_X11_moves_26 : decode cX11_moves 26 = .ok (.iconst 1, 1) := by decide +kernel
theorem d_X11_moves_27 : decode cX11_moves 27 = .ok (.isub, 1) := by decide +kernel
theorem d_X11_moves_28 : decode cX11_moves 28 = .ok (.iaload, 1) := by decide +kernel
theorem d_X11_moves_29 : decode cX11_moves 29 = .ok (.ireturn, 1) := by decide +kernel
set_option maxRecDepth 100000 in
theorem L_X11_moves {p : Program} {l : Launch} {e : Env} {s : State} {m : MethodId} {args : Array Value} {below : List Frame} {meth : Method} {c : Code} {D : va_G} {ca : Nat → ClassId} {ad sx sy : Nat → Nat} {A : Nat → Prop} {Q : QT} (C0 : CX p s m args meth c cX11_moves 4 yX11_moves.cls D ca ad A) (hE : EX sx sy A s s.heap) (hr : meth.sig.returnType = (some .int)) (hno : ∀ x ∈ c.exceptionTable.toList, False) : R_X11_moves (JW p l e { frames := 10, cells := 0, slots := 6 * 0, locals := 200 } s m args below meth c 4 D ca ad A (vx_MQ below (Qn D ca ad A Q) (Qx D ca ad A Q) args s 0 (6 * 0) A) gz gz true) Q := ⟨s_iln C0 (d_X11_moves_0) hgz (s_zne C0 (d_X11_moves_1) (by decide) hgz hgz (fun _ _ _ h => h) (s_aln C0 (d_X11_moves_4) hgz (s_aln C0 (d_X11_moves_5) hgz (s_gi C0 (j := 25) (c0 := 11) rfl gX11 (by decide) rfl (by decide) wg1226 (d_X11_moves_6) hgz (s_iln C0 (d_X11_moves_9) hgz (s_iax C0 (d_X11_moves_10) hgz (fun _ _ _ h => h))))))),
  s_aln C0 (d_X11_moves_11) hgz (s_dup C0 (d_X11_moves_12) hgz (s_gi C0 (j := 25) (c0 := 11) rfl gX11 (by decide) rfl (by decide) wg1226 (d_X11_moves_13) hgz (s_ic C0 (d_X11_moves_16) hgz (s_add C0 (d_X11_moves_17) hgz (s_pi C0 (j := 25) (c0 := 11) rfl gX11 tyX11_ok nmX11 (by decide) rfl (by decide) rfl rfl wg1226 (d_X11_moves_18) hgz (s_aln C0 (d_X11_moves_21) hgz (s_aln C0 (d_X11_moves_22) hgz (s_gi C0 (j := 25) (c0 := 11) rfl gX11 (by decide) rfl (by decide) wg1226 (d_X11_moves_23) hgz (s_ic C0 (d_X11_moves_26) hgz (s_sub C0 (d_X11_moves_27) hgz (s_ia C0 (d_X11_moves_28) hgz (s_ri C0 hr (d_X11_moves_29) ⟨by decide, by decide⟩))) (okn rfl))))))) (okn rfl))))⟩
theorem c_X11_moves (l : Launch) : Ctr l yX11_moves cX11_moves 4 (some .int) 10 200 0 (fun sx => (nf G_X11_moves)) := ctr_of (by decide) gz gz ⟨rfl, rfl⟩ (fun p e s m args below meth c D ca ad sx sy A Q as M C0 hE hr hno hF => P_X11_moves (L_X11_moves C0 hE hr hno) hF)
theorem wg1641 : Cond.code ⟨"WeighedHallModel", "moves", "([IIZ)I"⟩ prog_13_method_75_code 4 (Option.some .int) ∈ GT := gt_mem 1761 (by decide +kernel) rfl
theorem wg1638 : Cond.methodLink "WeighedHallModel" 312 ⟨"WeighedHallModel", "moves", "([IIZ)I"⟩ ∈ GT := gt_mem 1758 (by decide +kernel) rfl
theorem wg1640 : Cond.instanceMethod ⟨"WeighedHallModel", "moves", "([IIZ)I"⟩ ∈ GT := gt_mem 1760 (by decide +kernel) rfl
theorem ws119 : Cond.selects "WeighedHallModel" ⟨"WeighedHallModel", "moves", "([IIZ)I"⟩ ⟨"WeighedHallModel", "moves", "([IIZ)I"⟩ ∈ GT := gt_mem 119 (by decide +kernel) rfl
theorem d_X11_movesAll_0 : decode cX11_movesAll 0 = .ok (.aload_n 0, 1) := by decide +kernel
theorem d_X11_movesAll_1 : decode cX11_movesAll 1 = .ok (.iconst 0, 1) := by decide +kernel
theorem d_X11_movesAll_2 : decode cX11_movesAll 2 = .ok (.putfield 309, 3) := by decide +kernel
theorem d_X11_movesAll_5 : decode cX11_movesAll 5 = .ok (.aload_n 0, 1) := by decide +kernel
theorem d_X11_movesAll_6 : decode cX11_movesAll 6 = .ok (.aload_n 0, 1) := by decide +kernel
theorem d_X11_movesAll_7 : decode cX11_movesAll 7 = .ok (.aload_n 1, 1) := by decide +kernel
theorem d_X11_movesAll_8 : decode cX11_movesAll 8 = .ok (.aload_n 0, 1) := by decide +kernel
theorem d_X11_movesAll_9 : decode cX11_movesAll 9 = .ok (.getfield 199, 3) := by decide +kernel
theorem d_X11_movesAll_12 : decode cX11_movesAll 12 = .ok (.iload_n 2, 1) := by decide +kernel
theorem d_X11_movesAll_13 : decode cX11_movesAll 13 = .ok (.invokevirtual 312, 3) := by decide +kernel
theorem d_X11_movesAll_16 : decode cX11_movesAll 16 = .ok (.putfield 199, 3) := by decide +kernel
theorem d_X11_movesAll_19 : decode cX11_movesAll 19 = .ok (.aload_n 0, 1) := by decide +kernel
theorem d_X11_movesAll_20 : decode cX11_movesAll 20 = .ok (.aload_n 0, 1) := by decide +kernel
theorem d_X11_movesAll_21 : decode cX11_movesAll 21 = .ok (.aload_n 1, 1) := by decide +kernel
theorem d_X11_movesAll_22 : decode cX11_movesAll 22 = .ok (.aload_n 0, 1) := by decide +kernel
theorem d_X11_movesAll_23 : decode cX11_movesAll 23 = .ok (.getfield 202, 3) := by decide +kernel
theorem d_X11_movesAll_26 : decode cX11_movesAll 26 = .ok (.iload_n 2, 1) := by decide +kernel
theorem d_X11_movesAll_27 : decode cX11_movesAll 27 = .ok (.invokevirtual 312, 3) := by decide +kernel
theorem d_X11_movesAll_30 : decode cX11_movesAll 30 = .ok (.putfield 202, 3) := by decide +kernel
theorem d_X11_movesAll_33 : decode cX11_movesAll 33 = .ok (.iconst 0, 1) := by decide +kernel
theorem d_X11_movesAll_34 : decode cX11_movesAll 34 = .ok (.istore_n 3, 1) := by decide +kernel
theorem d_X11_movesAll_35 : decode cX11_movesAll 35 = .ok (.iload_n 3, 1) := by decide +kernel
theorem d_X11_movesAll_36 : decode cX11_movesAll 36 = .ok (.bipush 20, 2) := by decide +kernel
theorem d_X11_movesAll_38 : decode cX11_movesAll 38 = .ok (.if_icmp .ge 48, 3) := by decide +kernel
theorem d_X11_movesAll_41 : decode cX11_movesAll 41 = .ok (.iconst 0, 1) := by decide +kernel
theorem d_X11_movesAll_42 : decode cX11_movesAll 42 = .ok (.istore 4, 2) := by decide +kernel
theorem d_X11_movesAll_44 : decode cX11_movesAll 44 = .ok (.iload 4, 2) := by decide +kernel
theorem d_X11_movesAll_46 : decode cX11_movesAll 46 = .ok (.iconst 4, 1) := by decide +kernel
theorem d_X11_movesAll_47 : decode cX11_movesAll 47 = .ok (.if_icmp .ge 33, 3) := by decide +kernel
theorem d_X11_movesAll_50 : decode cX11_movesAll 50 = .ok (.aload_n 0, 1) := by decide +kernel
theorem d_X11_movesAll_51 : decode cX11_movesAll 51 = .ok (.getfield 49, 3) := by decide +kernel
theorem d_X11_movesAll_54 : decode cX11_movesAll 54 = .ok (.iload_n 3, 1) := by decide +kernel
theorem d_X11_movesAll_55 : decode cX11_movesAll 55 = .ok (.aaload, 1) := by decide +kernel
theorem d_X11_movesAll_56 : decode cX11_movesAll 56 = .ok (.iload 4, 2) := by decide +kernel
theorem d_X11_movesAll_58 : decode cX11_movesAll 58 = .ok (.aload_n 0, 1) := by decide +kernel
theorem d_X11_movesAll_59 : decode cX11_movesAll 59 = .ok (.aload_n 1, 1) := by decide +kernel
theorem d_X11_movesAll_60 : decode cX11_movesAll 60 = .ok (.aload_n 0, 1) := by decide +kernel
theorem d_X11_movesAll_61 : decode cX11_movesAll 61 = .ok (.getfield 49, 3) := by decide +kernel
theorem d_X11_movesAll_64 : decode cX11_movesAll 64 = .ok (.iload_n 3, 1) := by decide +kernel
theorem d_X11_movesAll_65 : decode cX11_movesAll 65 = .ok (.aaload, 1) := by decide +kernel
theorem d_X11_movesAll_66 : decode cX11_movesAll 66 = .ok (.iload 4, 2) := by decide +kernel
theorem d_X11_movesAll_68 : decode cX11_movesAll 68 = .ok (.iaload, 1) := by decide +kernel
theorem d_X11_movesAll_69 : decode cX11_movesAll 69 = .ok (.iload_n 2, 1) := by decide +kernel
theorem d_X11_movesAll_70 : decode cX11_movesAll 70 = .ok (.invokevirtual 312, 3) := by decide +kernel
theorem d_X11_movesAll_73 : decode cX11_movesAll 73 = .ok (.iastore, 1) := by decide +kernel
theorem d_X11_movesAll_74 : decode cX11_movesAll 74 = .ok (.iinc 4 1, 3) := by decide +kernel
theorem d_X11_movesAll_77 : decode cX11_movesAll 77 = .ok (.goto (-33), 3) := by decide +kernel
theorem d_X11_movesAll_80 : decode cX11_movesAll 80 = .ok (.iinc 3 1, 3) := by decide +kernel
theorem d_X11_movesAll_83 : decode cX11_movesAll 83 = .ok (.goto (-48), 3) := by decide +kernel
theorem d_X11_movesAll_86 : decode cX11_movesAll 86 = .ok (.iconst 0, 1) := by decide +kernel
theorem d_X11_movesAll_87 : decode cX11_movesAll 87 = .ok (.istore_n 3, 1) := by decide +kernel
theorem d_X11_movesAll_88 : decode cX11_movesAll 88 = .ok (.iload_n 3, 1) := by decide +kernel
theorem d_X11_movesAll_89 : decode cX11_movesAll 89 = .ok (.bipush 9, 2) := by decide +kernel
theorem d_X11_movesAll_91 : decode cX11_movesAll 91 = .ok (.if_icmp .ge 48, 3) := by decide +kernel
theorem d_X11_movesAll_94 : decode cX11_movesAll 94 = .ok (.iconst 0, 1) := by decide +kernel
theorem d_X11_movesAll_95 : decode cX11_movesAll 95 = .ok (.istore 4, 2) := by decide +kernel
theorem d_X11_movesAll_97 : decode cX11_movesAll 97 = .ok (.iload 4, 2) := by decide +kernel
theorem d_X11_movesAll_99 : decode cX11_movesAll 99 = .ok (.iconst 3, 1) := by decide +kernel
theorem d_X11_movesAll_100 : decode cX11_movesAll 100 = .ok (.if_icmp .ge 33, 3) := by decide +kernel
theorem d_X11_movesAll_103 : decode cX11_movesAll 103 = .ok (.aload_n 0, 1) := by decide +kernel
theorem d_X11_movesAll_104 : decode cX11_movesAll 104 = .ok (.getfield 58, 3) := by decide +kernel
theorem d_X11_movesAll_107 : decode cX11_movesAll 107 = .ok (.iload_n 3, 1) := by decide +kernel
theorem d_X11_movesAll_108 : decode cX11_movesAll 108 = .ok (.aaload, 1) := by decide +kernel
theorem d_X11_movesAll_109 : decode cX11_movesAll 109 = .ok (.iload 4, 2) := by decide +kernel
theorem d_X11_movesAll_111 : decode cX11_movesAll 111 = .ok (.aload_n 0, 1) := by decide +kernel
theorem d_X11_movesAll_112 : decode cX11_movesAll 112 = .ok (.aload_n 1, 1) := by decide +kernel
theorem d_X11_movesAll_113 : decode cX11_movesAll 113 = .ok (.aload_n 0, 1) := by decide +kernel
theorem d_X11_movesAll_114 : decode cX11_movesAll 114 = .ok (.getfield 58, 3) := by decide +kernel
theorem d_X11_movesAll_117 : decode cX11_movesAll 117 = .ok (.iload_n 3, 1) := by decide +kernel
theorem d_X11_movesAll_118 : decode cX11_movesAll 118 = .ok (.aaload, 1) := by decide +kernel
theorem d_X11_movesAll_119 : decode cX11_movesAll 119 = .ok (.iload 4, 2) := by decide +kernel
theorem d_X11_movesAll_121 : decode cX11_movesAll 121 = .ok (.iaload, 1) := by decide +kernel
theorem d_X11_movesAll_122 : decode cX11_movesAll 122 = .ok (.iload_n 2, 1) := by decide +kernel
theorem d_X11_movesAll_123 : decode cX11_movesAll 123 = .ok (.invokevirtual 312, 3) := by decide +kernel
theorem d_X11_movesAll_126 : decode cX11_movesAll 126 = .ok (.iastore, 1) := by decide +kernel
theorem d_X11_movesAll_127 : decode cX11_movesAll 127 = .ok (.iinc 4 1, 3) := by decide +kernel
theorem d_X11_movesAll_130 : decode cX11_movesAll 130 = .ok (.goto (-33), 3) := by decide +kernel
theorem d_X11_movesAll_133 : decode cX11_movesAll 133 = .ok (.iinc 3 1, 3) := by decide +kernel
theorem d_X11_movesAll_136 : decode cX11_movesAll 136 = .ok (.goto (-48), 3) := by decide +kernel
theorem d_X11_movesAll_139 : decode cX11_movesAll 139 = .ok (.return_, 1) := by decide +kernel
set_option maxRecDepth 100000 in
theorem L_X11_movesAll {p : Program} {l : Launch} {e : Env} {s : State} {m : MethodId} {args : Array Value} {below : List Frame} {meth : Method} {c : Code} {D : va_G} {ca : Nat → ClassId} {ad sx sy : Nat → Nat} {A : Nat → Prop} {Q : QT} (C0 : CX p s m args meth c cX11_movesAll 5 yX11_movesAll.cls D ca ad A) (hE : EX sx sy A s s.heap) (hr : meth.sig.returnType = none) (hno : ∀ x ∈ c.exceptionTable.toList, False) : R_X11_movesAll (JW p l e { frames := 11, cells := 0, slots := 6 * 0, locals := 223 } s m args below meth c 5 D ca ad A (vx_MQ below (Qn D ca ad A Q) (Qx D ca ad A Q) args s 0 (6 * 0) A) gz gz true) Q := ⟨s_aln C0 (d_X11_movesAll_0) hgz (s_ic C0 (d_X11_movesAll_1) hgz (s_pi C0 (j := 25) (c0 := 11) rfl gX11 tyX11_ok nmX11 (by decide) rfl (by decide) rfl rfl wg1226 (d_X11_movesAll_2) hgz (s_aln C0 (d_X11_movesAll_5) hgz (s_aln C0 (d_X11_movesAll_6) hgz (s_aln C0 (d_X11_movesAll_7) hgz (s_aln C0 (d_X11_movesAll_8) hgz (s_gi C0 (j := 22) (c0 := 11) rfl gX11 (by decide) rfl (by decide) wg1223 (d_X11_movesAll_9) hgz (s_iln C0 (d_X11_movesAll_12) hgz (s_callV C0 hE (c_X11_moves l) wg1641 wg1638 wg1640 ws119 wg12 ⟨by decide, by decide⟩ (by decide +kernel) (c0 := 11) rfl ⟨by decide, by decide⟩ ⟨by decide, by decide⟩ (d_X11_movesAll_13) (fun x hx => (hno x hx).elim) ⟨by decide, by decide⟩ ⟨by decide, by decide⟩ (s_pi C0 (j := 22) (c0 := 11) rfl gX11 tyX11_ok nmX11 (by decide) rfl (by decide) rfl rfl wg1223 (d_X11_movesAll_16) hgz (s_aln C0 (d_X11_movesAll_19) hgz (s_aln C0 (d_X11_movesAll_20) hgz (s_aln C0 (d_X11_movesAll_21) hgz (s_aln C0 (d_X11_movesAll_22) hgz (s_gi C0 (j := 23) (c0 := 11) rfl gX11 (by decide) rfl (by decide) wg1224 (d_X11_movesAll_23) hgz (s_iln C0 (d_X11_movesAll_26) hgz (s_callV C0 hE (c_X11_moves l) wg1641 wg1638 wg1640 ws119 wg12 ⟨by decide, by decide⟩ (by decide +kernel) (c0 := 11) rfl ⟨by decide, by decide⟩ ⟨by decide, by decide⟩ (d_X11_movesAll_27) (fun x hx => (hno x hx).elim) ⟨by decide, by decide⟩ ⟨by decide, by decide⟩ (s_pi C0 (j := 23) (c0 := 11) rfl gX11 tyX11_ok nmX11 (by decide) rfl (by decide) rfl rfl wg1224 (d_X11_movesAll_30) hgz (s_ic C0 (d_X11_movesAll_33) hgz (s_isn C0 (d_X11_movesAll_34) hgz (fun _ _ _ h => h)) (okn rfl))))))))))))))))))) (okn rfl)),
  s_iln C0 (d_X11_movesAll_35) hgz (s_bi C0 (d_X11_movesAll_36) hgz (s_cge C0 (d_X11_movesAll_38) (by decide) hgz hgz (fun _ _ _ h => h) (s_ic C0 (d_X11_movesAll_41) hgz (s_is C0 (d_X11_movesAll_42) hgz (fun _ _ _ h => h)) (okn rfl))) (okn rfl) rfl),
  s_il C0 (d_X11_movesAll_44) hgz (s_ic C0 (d_X11_movesAll_46) hgz (s_cge C0 (d_X11_movesAll_47) (by decide) hgz hgz (fun _ _ _ h => h) (s_aln C0 (d_X11_movesAll_50) hgz (s_gr C0 (j := 19) (c0 := 11) rfl gX11 (by decide) rfl rfl wg1220 (d_X11_movesAll_51) hgz (s_iln C0 (d_X11_movesAll_54) hgz (s_aa C0 (by decide) (by decide) rfl rfl (d_X11_movesAll_55) hgz (s_il C0 (d_X11_movesAll_56) hgz (s_aln C0 (d_X11_movesAll_58) hgz (s_aln C0 (d_X11_movesAll_59) hgz (s_aln C0 (d_X11_movesAll_60) hgz (s_gr C0 (j := 19) (c0 := 11) rfl gX11 (by decide) rfl rfl wg1220 (d_X11_movesAll_61) hgz (s_iln C0 (d_X11_movesAll_64) hgz (s_aa C0 (by decide) (by decide) rfl rfl (d_X11_movesAll_65) hgz (s_il C0 (d_X11_movesAll_66) hgz (s_ia C0 (d_X11_movesAll_68) hgz (s_iln C0 (d_X11_movesAll_69) hgz (s_callV C0 hE (c_X11_moves l) wg1641 wg1638 wg1640 ws119 wg12 ⟨by decide, by decide⟩ (by decide +kernel) (c0 := 11) rfl ⟨by decide, by decide⟩ ⟨by decide, by decide⟩ (d_X11_movesAll_70) (fun x hx => (hno x hx).elim) ⟨by decide, by decide⟩ ⟨by decide, by decide⟩ (s_iax C0 (d_X11_movesAll_73) hgz (s_inc C0 (d_X11_movesAll_74) hgz (s_goto C0 (tgt := 44) (d_X11_movesAll_77) (by decide) hgz (fun _ _ _ h => h)))))))))))))))))))) (okn rfl)),
  s_inc C0 (d_X11_movesAll_80) hgz (s_goto C0 (tgt := 35) (d_X11_movesAll_83) (by decide) hgz (fun _ _ _ h => h)),
  s_ic C0 (d_X11_movesAll_86) hgz (s_isn C0 (d_X11_movesAll_87) hgz (fun _ _ _ h => h)) (okn rfl),
  s_iln C0 (d_X11_movesAll_88) hgz (s_bi C0 (d_X11_movesAll_89) hgz (s_cge C0 (d_X11_movesAll_91) (by decide) hgz hgz (fun _ _ _ h => h) (s_ic C0 (d_X11_movesAll_94) hgz (s_is C0 (d_X11_movesAll_95) hgz (fun _ _ _ h => h)) (okn rfl))) (okn rfl) rfl),
  s_il C0 (d_X11_movesAll_97) hgz (s_ic C0 (d_X11_movesAll_99) hgz (s_cge C0 (d_X11_movesAll_100) (by decide) hgz hgz (fun _ _ _ h => h) (s_aln C0 (d_X11_movesAll_103) hgz (s_gr C0 (j := 26) (c0 := 11) rfl gX11 (by decide) rfl rfl wg1227 (d_X11_movesAll_104) hgz (s_iln C0 (d_X11_movesAll_107) hgz (s_aa C0 (by decide) (by decide) rfl rfl (d_X11_movesAll_108) hgz (s_il C0 (d_X11_movesAll_109) hgz (s_aln C0 (d_X11_movesAll_111) hgz (s_aln C0 (d_X11_movesAll_112) hgz (s_aln C0 (d_X11_movesAll_113) hgz (s_gr C0 (j := 26) (c0 := 11) rfl gX11 (by decide) rfl rfl wg1227 (d_X11_movesAll_114) hgz (s_iln C0 (d_X11_movesAll_117) hgz (s_aa C0 (by decide) (by decide) rfl rfl (d_X11_movesAll_118) hgz (s_il C0 (d_X11_movesAll_119) hgz (s_ia C0 (d_X11_movesAll_121) hgz (s_iln C0 (d_X11_movesAll_122) hgz (s_callV C0 hE (c_X11_moves l) wg1641 wg1638 wg1640 ws119 wg12 ⟨by decide, by decide⟩ (by decide +kernel) (c0 := 11) rfl ⟨by decide, by decide⟩ ⟨by decide, by decide⟩ (d_X11_movesAll_123) (fun x hx => (hno x hx).elim) ⟨by decide, by decide⟩ ⟨by decide, by decide⟩ (s_iax C0 (d_X11_movesAll_126) hgz (s_inc C0 (d_X11_movesAll_127) hgz (s_goto C0 (tgt := 97) (d_X11_movesAll_130) (by decide) hgz (fun _ _ _ h => h)))))))))))))))))))) (okn rfl)),
  s_inc C0 (d_X11_movesAll_133) hgz (s_goto C0 (tgt := 88) (d_X11_movesAll_136) (by decide) hgz (fun _ _ _ h => h)),
  s_rv C0 hr (d_X11_movesAll_139) ⟨by decide, by decide⟩⟩
theorem c_X11_movesAll (l : Launch) : Ctr l yX11_movesAll cX11_movesAll 5 none 11 223 0 (fun sx => (nf G_X11_movesAll)) := ctr_of (by decide) gz gz ⟨rfl, rfl⟩ (fun p e s m args below meth c D ca ad sx sy A Q as M C0 hE hr hno hF => P_X11_movesAll (L_X11_movesAll C0 hE hr hno) hF)
theorem wg1637 : Cond.code ⟨"WeighedHallModel", "movesAll", "([IZ)V"⟩ prog_13_method_76_code 5 (Option.none : Option FieldType) ∈ GT := gt_mem 1757 (by decide +kernel) rfl
theorem wg1634 : Cond.methodLink "WeighedHallModel" 316 ⟨"WeighedHallModel", "movesAll", "([IZ)V"⟩ ∈ GT := gt_mem 1754 (by decide +kernel) rfl
theorem wg1636 : Cond.instanceMethod ⟨"WeighedHallModel", "movesAll", "([IZ)V"⟩ ∈ GT := gt_mem 1756 (by decide +kernel) rfl
theorem ws118 : Cond.selects "WeighedHallModel" ⟨"WeighedHallModel", "movesAll", "([IZ)V"⟩ ⟨"WeighedHallModel", "movesAll", "([IZ)V"⟩ ∈ GT := gt_mem 118 (by decide +kernel) rfl
theorem wg1228 : Cond.fieldLink "WeighedHallModel" 61 "WeighedHallModel" "kept" "[[I" ∈ GT := gt_mem 1348 (by decide +kernel) rfl
theorem d_X11_image_0 : decode cX11_image 0 = .ok (.aload_n 0, 1) := by decide +kernel
theorem d_X11_image_1 : decode cX11_image 1 = .ok (.iconst 0, 1) := by decide +kernel
theorem d_X11_image_2 : decode cX11_image 2 = .ok (.putfield 106, 3) := by decide +kernel
theorem d_X11_image_5 : decode cX11_image 5 = .ok (.aload_n 0, 1) := by decide +kernel
theorem d_X11_image_6 : decode cX11_image 6 = .ok (.getfield 205, 3) := by decide +kernel
theorem d_X11_image_9 : decode cX11_image 9 = .ok (.iconst 3, 1) := by decide +kernel
theorem d_X11_image_10 : decode cX11_image 10 = .ok (.if_icmp .ne 5, 3) := by decide +kernel
theorem d_X11_image_13 : decode cX11_image 13 = .ok (.iconst (-1), 1) := by decide +kernel
theorem d_X11_image_14 : decode cX11_image 14 = .ok (.ireturn, 1) := by decide +kernel
theorem d_X11_image_15 : decode cX11_image 15 = .ok (.aload_n 0, 1) := by decide +kernel
theorem d_X11_image_16 : decode cX11_image 16 = .ok (.aload_n 0, 1) := by decide +kernel
theorem d_X11_image_17 : decode cX11_image 17 = .ok (.getfield 61, 3) := by decide +kernel
theorem d_X11_image_20 : decode cX11_image 20 = .ok (.aload_n 0, 1) := by decide +kernel
theorem d_X11_image_21 : decode cX11_image 21 = .ok (.getfield 205, 3) := by decide +kernel
theorem d_X11_image_24 : decode cX11_image 24 = .ok (.aaload, 1) := by decide +kernel
theorem d_X11_image_25 : decode cX11_image 25 = .ok (.iconst 0, 1) := by decide +kernel
theorem d_X11_image_26 : decode cX11_image 26 = .ok (.invokevirtual 316, 3) := by decide +kernel
theorem d_X11_image_29 : decode cX11_image 29 = .ok (.aload_n 0, 1) := by decide +kernel
theorem d_X11_image_30 : decode cX11_image 30 = .ok (.dup, 1) := by decide +kernel
theorem d_X11_image_31 : decode cX11_image 31 = .ok (.getfield 205, 3) := by decide +kernel
theorem d_X11_image_34 : decode cX11_image 34 = .ok (.iconst 1, 1) := by decide +kernel
theorem d_X11_image_35 : decode cX11_image 35 = .ok (.iadd, 1) := by decide +kernel
theorem d_X11_image_36 : decode cX11_image 36 = .ok (.putfield 205, 3) := by decide +kernel
theorem d_X11_image_39 : decode cX11_image 39 = .ok (.aload_n 0, 1) := by decide +kernel
theorem d_X11_image_40 : decode cX11_image 40 = .ok (.getfield 205, 3) := by decide +kernel
theorem d_X11_image_43 : decode cX11_image 43 = .ok (.ireturn, 1) := by decide +kernel
set_option maxRecDepth 100000 in
theorem L_X11_image {p : Program} {l : Launch} {e : Env} {s : State} {m : MethodId} {args : Array Value} {below : List Frame} {meth : Method} {c : Code} {D : va_G} {ca : Nat → ClassId} {ad sx sy : Nat → Nat} {A : Nat → Prop} {Q : QT} (C0 : CX p s m args meth c cX11_image 1 yX11_image.cls D ca ad A) (hE : EX sx sy A s s.heap) (hr : meth.sig.returnType = (some .int)) (hno : ∀ x ∈ c.exceptionTable.toList, False) : R_X11_image (JW p l e { frames := 12, cells := 0, slots := 6 * 0, locals := 247 } s m args below meth c 1 D ca ad A (vx_MQ below (Qn D ca ad A Q) (Qx D ca ad A Q) args s 0 (6 * 0) A) gz gz true) Q := ⟨s_aln C0 (d_X11_image_0) hgz (s_ic C0 (d_X11_image_1) hgz (s_pi C0 (j := 0) (c0 := 11) rfl gX11 tyX11_ok nmX11 (by decide) rfl (by decide) rfl rfl wg1201 (d_X11_image_2) hgz (s_aln C0 (d_X11_image_5) hgz (s_gi C0 (j := 24) (c0 := 11) rfl gX11 (by decide) rfl (by decide) wg1225 (d_X11_image_6) hgz (s_ic C0 (d_X11_image_9) hgz (s_cne C0 (d_X11_image_10) (by decide) hgz hgz (fun _ _ _ h => h) (s_ic C0 (d_X11_image_13) hgz (s_ri C0 hr (d_X11_image_14) ⟨by decide, by decide⟩) (okn rfl))) (okn rfl))))) (okn rfl)),
  s_aln C0 (d_X11_image_15) hgz (s_aln C0 (d_X11_image_16) hgz (s_gr C0 (j := 27) (c0 := 11) rfl gX11 (by decide) rfl rfl wg1228 (d_X11_image_17) hgz (s_aln C0 (d_X11_image_20) hgz (s_gi C0 (j := 24) (c0 := 11) rfl gX11 (by decide) rfl (by decide) wg1225 (d_X11_image_21) hgz (s_aa C0 (by decide) (by decide) rfl rfl (d_X11_image_24) hgz (s_ic C0 (d_X11_image_25) hgz (s_callV C0 hE (c_X11_movesAll l) wg1637 wg1634 wg1636 ws118 wg12 ⟨by decide, by decide⟩ (by decide +kernel) (c0 := 11) rfl ⟨by decide, by decide⟩ ⟨by decide, by decide⟩ (d_X11_image_26) (fun x hx => (hno x hx).elim) ⟨by decide, by decide⟩ ⟨by decide, by decide⟩ (s_aln C0 (d_X11_image_29) hgz (s_dup C0 (d_X11_image_30) hgz (s_gi C0 (j := 24) (c0 := 11) rfl gX11 (by decide) rfl (by decide) wg1225 (d_X11_image_31) hgz (s_ic C0 (d_X11_image_34) hgz (s_add C0 (d_X11_image_35) hgz (s_pi C0 (j := 24) (c0 := 11) rfl gX11 tyX11_ok nmX11 (by decide) rfl (by decide) rfl rfl wg1225 (d_X11_image_36) hgz (s_aln C0 (d_X11_image_39) hgz (s_gi C0 (j := 24) (c0 := 11) rfl gX11 (by decide) rfl (by decide) wg1225 (d_X11_image_40) hgz (s_ri C0 hr (d_X11_image_43) ⟨by decide, by decide⟩))))) (okn rfl)))))) (okn rfl)))))))⟩
theorem c_X11_image (l : Launch) : Ctr l yX11_image cX11_image 1 (some .int) 12 247 0 (fun sx => (nf G_X11_image)) := ctr_of (by decide) gz gz ⟨rfl, rfl⟩ (fun p e s m args below meth c D ca ad sx sy A Q as M C0 hE hr hno hF => P_X11_image (L_X11_image C0 hE hr hno) hF)
theorem d_X11_isLaw_0 : decode cX11_isLaw 0 = .ok (.iload_n 0, 1) := by decide +kernel
theorem d_X11_isLaw_1 : decode cX11_isLaw 1 = .ok (.iconst 0, 1) := by decide +kernel
theorem d_X11_isLaw_2 : decode cX11_isLaw 2 = .ok (.iconst 2, 1) := by decide +kernel
theorem d_X11_isLaw_3 : decode cX11_isLaw 3 = .ok (.invokestatic 140, 3) := by decide +kernel
theorem d_X11_isLaw_6 : decode cX11_isLaw 6 = .ok (.ireturn, 1) := by decide +kernel
set_option maxRecDepth 100000 in
theorem L_X11_isLaw {p : Program} {l : Launch} {e : Env} {s : State} {m : MethodId} {args : Array Value} {below : List Frame} {meth : Method} {c : Code} {D : va_G} {ca : Nat → ClassId} {ad sx sy : Nat → Nat} {A : Nat → Prop} {Q : QT} (C0 : CX p s m args meth c cX11_isLaw 1 yX11_isLaw.cls D ca ad A) (hE : EX sx sy A s s.heap) (hr : meth.sig.returnType = (some .boolean)) (hno : ∀ x ∈ c.exceptionTable.toList, False) : R_X11_isLaw (JW p l e { frames := 11, cells := 0, slots := 6 * 0, locals := 222 } s m args below meth c 1 D ca ad A (vx_MQ below (Qn D ca ad A Q) (Qx D ca ad A Q) args s 0 (6 * 0) A) gz gz true) Q := s_iln C0 (d_X11_isLaw_0) hgz (s_ic C0 (d_X11_isLaw_1) hgz (s_ic C0 (d_X11_isLaw_2) hgz (s_callS C0 hE (c_X11_in l) wg1355 wg1353 wg1354 wg12 ⟨by decide, by decide⟩ (by decide +kernel) ⟨by decide, by decide⟩ ⟨by decide, by decide⟩ (d_X11_isLaw_3) (fun x hx => (hno x hx).elim) ⟨by decide, by decide⟩ ⟨by decide, by decide⟩ (s_rz C0 hr (d_X11_isLaw_6) ⟨by decide, by decide⟩)) (okn rfl)) (okn rfl))
theorem c_X11_isLaw (l : Launch) : Ctr l yX11_isLaw cX11_isLaw 1 (some .boolean) 11 222 0 (fun sx => (nf G_X11_isLaw)) := ctr_of (by decide) gz gz ⟨rfl, rfl⟩ (fun p e s m args below meth c D ca ad sx sy A Q as M C0 hE hr hno hF => P_X11_isLaw (L_X11_isLaw C0 hE hr hno) hF)
theorem d_X11_isMotion_0 : decode cX11_isMotion 0 = .ok (.iload_n 1, 1) := by decide +kernel
theorem d_X11_isMotion_1 : decode cX11_isMotion 1 = .ok (.iconst 0, 1) := by decide +kernel
theorem d_X11_isMotion_2 : decode cX11_isMotion 2 = .ok (.aload_n 0, 1) := by decide +kernel
theorem d_X11_isMotion_3 : decode cX11_isMotion 3 = .ok (.getfield 23, 3) := by decide +kernel
theorem d_X11_isMotion_6 : decode cX11_isMotion 6 = .ok (.iconst 3, 1) := by decide +kernel
theorem d_X11_isMotion_7 : decode cX11_isMotion 7 = .ok (.iaload, 1) := by decide +kernel
theorem d_X11_isMotion_8 : decode cX11_isMotion 8 = .ok (.iconst 1, 1) := by decide +kernel
theorem d_X11_isMotion_9 : decode cX11_isMotion 9 = .ok (.isub, 1) := by decide +kernel
theorem d_X11_isMotion_10 : decode cX11_isMotion 10 = .ok (.invokestatic 140, 3) := by decide +kernel
theorem d_X11_isMotion_13 : decode cX11_isMotion 13 = .ok (.ireturn, 1) := by decide +kernel
set_option maxRecDepth 100000 in
theorem L_X11_isMotion {p : Program} {l : Launch} {e : Env} {s : State} {m : MethodId} {args : Array Value} {below : List Frame} {meth : Method} {c : Code} {D : va_G} {ca : Nat → ClassId} {ad sx sy : Nat → Nat} {A : Nat → Prop} {Q : QT} (C0 : CX p s m args meth c cX11_isMotion 2 yX11_isMotion.cls D ca ad A) (hE : EX sx sy A s s.heap) (hr : meth.sig.returnType = (some .boolean)) (hno : ∀ x ∈ c.exceptionTable.toList, False) : R_X11_isMotion (JW p l e { frames := 11, cells := 0, slots := 6 * 0, locals := 222 } s m args below meth c 2 D ca ad A (vx_MQ below (Qn D ca ad A Q) (Qx D ca ad A Q) args s 0 (6 * 0) A) gz gz true) Q := s_iln C0 (d_X11_isMotion_0) hgz (s_ic C0 (d_X11_isMotion_1) hgz (s_aln C0 (d_X11_isMotion_2) hgz (s_gr C0 (j := 11) (c0 := 11) rfl gX11 (by decide) rfl rfl wg1212 (d_X11_isMotion_3) hgz (s_ic C0 (d_X11_isMotion_6) hgz (s_ia C0 (d_X11_isMotion_7) hgz (s_ic C0 (d_X11_isMotion_8) hgz (s_sub C0 (d_X11_isMotion_9) hgz (s_callS C0 hE (c_X11_in l) wg1355 wg1353 wg1354 wg12 ⟨by decide, by decide⟩ (by decide +kernel) ⟨by decide, by decide⟩ ⟨by decide, by decide⟩ (d_X11_isMotion_10) (fun x hx => (hno x hx).elim) ⟨by decide, by decide⟩ ⟨by decide, by decide⟩ (s_rz C0 hr (d_X11_isMotion_13) ⟨by decide, by decide⟩))) (okn rfl))) (okn rfl)))) (okn rfl))
theorem c_X11_isMotion (l : Launch) : Ctr l yX11_isMotion cX11_isMotion 2 (some .boolean) 11 222 0 (fun sx => (nf G_X11_isMotion)) := ctr_of (by decide) gz gz ⟨rfl, rfl⟩ (fun p e s m args below meth c D ca ad sx sy A Q as M C0 hE hr hno hF => P_X11_isMotion (L_X11_isMotion C0 hE hr hno) hF)
theorem d_X11_isPerson_0 : decode cX11_isPerson 0 = .ok (.iload_n 1, 1) := by decide +kernel
theorem d_X11_isPerson_1 : decode cX11_isPerson 1 = .ok (.iconst 0, 1) := by decide +kernel
theorem d_X11_isPerson_2 : decode cX11_isPerson 2 = .ok (.aload_n 0, 1) := by decide +kernel
theorem d_X11_isPerson_3 : decode cX11_isPerson 3 = .ok (.getfield 23, 3) := by decide +kernel
theorem d_X11_isPerson_6 : decode cX11_isPerson 6 = .ok (.iconst 0, 1) := by decide +kernel
theorem d_X11_isPerson_7 : decode cX11_isPerson 7 = .ok (.iaload, 1) := by decide +kernel
theorem d_X11_isPerson_8 : decode cX11_isPerson 8 = .ok (.iconst 1, 1) := by decide +kernel
theorem d_X11_isPerson_9 : decode cX11_isPerson 9 = .ok (.isub, 1) := by decide +kernel
theorem d_X11_isPerson_10 : decode cX11_isPerson 10 = .ok (.invokestatic 140, 3) := by decide +kernel
theorem d_X11_isPerson_13 : decode cX11_isPerson 13 = .ok (.ireturn, 1) := by decide +kernel
set_option maxRecDepth 100000 in
theorem L_X11_isPerson {p : Program} {l : Launch} {e : Env} {s : State} {m : MethodId} {args : Array Value} {below : List Frame} {meth : Method} {c : Code} {D : va_G} {ca : Nat → ClassId} {ad sx sy : Nat → Nat} {A : Nat → Prop} {Q : QT} (C0 : CX p s m args meth c cX11_isPerson 2 yX11_isPerson.cls D ca ad A) (hE : EX sx sy A s s.heap) (hr : meth.sig.returnType = (some .boolean)) (hno : ∀ x ∈ c.exceptionTable.toList, False) : R_X11_isPerson (JW p l e { frames := 11, cells := 0, slots := 6 * 0, locals := 222 } s m args below meth c 2 D ca ad A (vx_MQ below (Qn D ca ad A Q) (Qx D ca ad A Q) args s 0 (6 * 0) A) gz gz true) Q := s_iln C0 (d_X11_isPerson_0) hgz (s_ic C0 (d_X11_isPerson_1) hgz (s_aln C0 (d_X11_isPerson_2) hgz (s_gr C0 (j := 11) (c0 := 11) rfl gX11 (by decide) rfl rfl wg1212 (d_X11_isPerson_3) hgz (s_ic C0 (d_X11_isPerson_6) hgz (s_ia C0 (d_X11_isPerson_7) hgz (s_ic C0 (d_X11_isPerson_8) hgz (s_sub C0 (d_X11_isPerson_9) hgz (s_callS C0 hE (c_X11_in l) wg1355 wg1353 wg1354 wg12 ⟨by decide, by decide⟩ (by decide +kernel) ⟨by decide, by decide⟩ ⟨by decide, by decide⟩ (d_X11_isPerson_10) (fun x hx => (hno x hx).elim) ⟨by decide, by decide⟩ ⟨by decide, by decide⟩ (s_rz C0 hr (d_X11_isPerson_13) ⟨by decide, by decide⟩))) (okn rfl))) (okn rfl)))) (okn rfl))
theorem c_X11_isPerson (l : Launch) : Ctr l yX11_isPerson cX11_isPerson 2 (some .boolean) 11 222 0 (fun sx => (nf G_X11_isPerson)) := ctr_of (by decide) gz gz ⟨rfl, rfl⟩ (fun p e s m args below meth c D ca ad sx sy A Q as M C0 hE hr hno hF => P_X11_isPerson (L_X11_isPerson C0 hE hr hno) hF)
theorem wg1528 : Cond.code ⟨"WeighedHallModel", "isMotion", "(I)Z"⟩ prog_13_method_28_code 2 (Option.some .boolean) ∈ GT := gt_mem 1648 (by decide +kernel) rfl
theorem wg1525 : Cond.methodLink "WeighedHallModel" 269 ⟨"WeighedHallModel", "isMotion", "(I)Z"⟩ ∈ GT := gt_mem 1645 (by decide +kernel) rfl
theorem wg1527 : Cond.instanceMethod ⟨"WeighedHallModel", "isMotion", "(I)Z"⟩ ∈ GT := gt_mem 1647 (by decide +kernel) rfl
theorem ws110 : Cond.selects "WeighedHallModel" ⟨"WeighedHallModel", "isMotion", "(I)Z"⟩ ⟨"WeighedHallModel", "isMotion", "(I)Z"⟩ ∈ GT := gt_mem 110 (by decide +kernel) rfl
theorem wg1558 : Cond.code ⟨"WeighedHallModel", "findLeast", "(I)V"⟩ prog_13_method_55_code 9 (Option.none : Option FieldType) ∈ GT := gt_mem 1678 (by decide +kernel) rfl
theorem wg1555 : Cond.methodLink "WeighedHallModel" 287 ⟨"WeighedHallModel", "findLeast", "(I)V"⟩ ∈ GT := gt_mem 1675 (by decide +kernel) rfl
theorem wg1557 : Cond.instanceMethod ⟨"WeighedHallModel", "findLeast", "(I)V"⟩ ∈ GT := gt_mem 1677 (by decide +kernel) rfl
theorem ws112 : Cond.selects "WeighedHallModel" ⟨"WeighedHallModel", "findLeast", "(I)V"⟩ ⟨"WeighedHallModel", "findLeast", "(I)V"⟩ ∈ GT := gt_mem 112 (by decide +kernel) rfl
theorem d_X11_least_0 : decode cX11_least 0 = .ok (.aload_n 0, 1) := by decide +kernel
theorem d_X11_least_1 : decode cX11_least 1 = .ok (.iconst 0, 1) := by decide +kernel
theorem d_X11_least_2 : decode cX11_least 2 = .ok (.putfield 106, 3) := by decide +kernel
theorem d_X11_least_5 : decode cX11_least 5 = .ok (.aload_n 0, 1) := by decide +kernel
theorem d_X11_least_6 : decode cX11_least 6 = .ok (.aload_n 0, 1) := by decide +kernel
theorem d_X11_least_7 : decode cX11_least 7 = .ok (.iload_n 1, 1) := by decide +kernel
theorem d_X11_least_8 : decode cX11_least 8 = .ok (.invokevirtual 269, 3) := by decide +kernel
theorem d_X11_least_11 : decode cX11_least 11 = .ok (.ifCond .ne 7, 3) := by decide +kernel
theorem d_X11_least_14 : decode cX11_least 14 = .ok (.iconst 1, 1) := by decide +kernel
theorem d_X11_least_15 : decode cX11_least 15 = .ok (.goto 4, 3) := by decide +kernel
theorem d_X11_least_18 : decode cX11_least 18 = .ok (.iconst 0, 1) := by decide +kernel
theorem d_X11_least_19 : decode cX11_least 19 = .ok (.iconst 1, 1) := by decide +kernel
theorem d_X11_least_20 : decode cX11_least 20 = .ok (.iconst 0, 1) := by decide +kernel
theorem d_X11_least_21 : decode cX11_least 21 = .ok (.invokevirtual 188, 3) := by decide +kernel
theorem d_X11_least_24 : decode cX11_least 24 = .ok (.ifCond .ne 26, 3) := by decide +kernel
theorem d_X11_least_27 : decode cX11_least 27 = .ok (.aload_n 0, 1) := by decide +kernel
theorem d_X11_least_28 : decode cX11_least 28 = .ok (.iload_n 2, 1) := by decide +kernel
theorem d_X11_least_29 : decode cX11_least 29 = .ok (.iconst 0, 1) := by decide +kernel
theorem d_X11_least_30 : decode cX11_least 30 = .ok (.iconst 1, 1) := by decide +kernel
theorem d_X11_least_31 : decode cX11_least 31 = .ok (.invokestatic 140, 3) := by decide +kernel
theorem d_X11_least_34 : decode cX11_least 34 = .ok (.ifCond .ne 7, 3) := by decide +kernel
theorem d_X11_least_37 : decode cX11_least 37 = .ok (.iconst 1, 1) := by decide +kernel
theorem d_X11_least_38 : decode cX11_least 38 = .ok (.goto 4, 3) := by decide +kernel
theorem d_X11_least_41 : decode cX11_least 41 = .ok (.iconst 0, 1) := by decide +kernel
theorem d_X11_least_42 : decode cX11_least 42 = .ok (.iconst 2, 1) := by decide +kernel
theorem d_X11_least_43 : decode cX11_least 43 = .ok (.iconst 1, 1) := by decide +kernel
theorem d_X11_least_44 : decode cX11_least 44 = .ok (.invokevirtual 188, 3) := by decide +kernel
theorem d_X11_least_47 : decode cX11_least 47 = .ok (.ifCond .eq 5, 3) := by decide +kernel
theorem d_X11_least_50 : decode cX11_least 50 = .ok (.iconst 0, 1) := by decide +kernel
theorem d_X11_least_51 : decode cX11_least 51 = .ok (.ireturn, 1) := by decide +kernel
theorem d_X11_least_52 : decode cX11_least 52 = .ok (.aload_n 0, 1) := by decide +kernel
theorem d_X11_least_53 : decode cX11_least 53 = .ok (.iload_n 1, 1) := by decide +kernel
theorem d_X11_least_54 : decode cX11_least 54 = .ok (.invokevirtual 287, 3) := by decide +kernel
theorem d_X11_least_57 : decode cX11_least 57 = .ok (.iload_n 2, 1) := by decide +kernel
theorem d_X11_least_58 : decode cX11_least 58 = .ok (.ifCond .ne 10, 3) := by decide +kernel
theorem d_X11_least_61 : decode cX11_least 61 = .ok (.aload_n 0, 1) := by decide +kernel
theorem d_X11_least_62 : decode cX11_least 62 = .ok (.getfield 281, 3) := by decide +kernel
theorem d_X11_least_65 : decode cX11_least 65 = .ok (.goto 7, 3) := by decide +kernel
theorem d_X11_least_68 : decode cX11_least 68 = .ok (.aload_n 0, 1) := by decide +kernel
theorem d_X11_least_69 : decode cX11_least 69 = .ok (.getfield 284, 3) := by decide +kernel
theorem d_X11_least_72 : decode cX11_least 72 = .ok (.ireturn, 1) := by decide +kernel
set_option maxRecDepth 100000 in
theorem L_X11_least {p : Program} {l : Launch} {e : Env} {s : State} {m : MethodId} {args : Array Value} {below : List Frame} {meth : Method} {c : Code} {D : va_G} {ca : Nat → ClassId} {ad sx sy : Nat → Nat} {A : Nat → Prop} {Q : QT} (C0 : CX p s m args meth c cX11_least 3 yX11_least.cls D ca ad A) (hE : EX sx sy A s s.heap) (hr : meth.sig.returnType = (some .int)) (hno : ∀ x ∈ c.exceptionTable.toList, False) : R_X11_least (JW p l e { frames := 16, cells := 0, slots := 6 * 0, locals := 340 } s m args below meth c 3 D ca ad A (vx_MQ below (Qn D ca ad A Q) (Qx D ca ad A Q) args s 0 (6 * 0) A) gz gz true) Q := ⟨s_aln C0 (d_X11_least_0) hgz (s_ic C0 (d_X11_least_1) hgz (s_pi C0 (j := 0) (c0 := 11) rfl gX11 tyX11_ok nmX11 (by decide) rfl (by decide) rfl rfl wg1201 (d_X11_least_2) hgz (s_aln C0 (d_X11_least_5) hgz (s_aln C0 (d_X11_least_6) hgz (s_iln C0 (d_X11_least_7) hgz (s_callV C0 hE (c_X11_isMotion l) wg1528 wg1525 wg1527 ws110 wg12 ⟨by decide, by decide⟩ (by decide +kernel) (c0 := 11) rfl ⟨by decide, by decide⟩ ⟨by decide, by decide⟩ (d_X11_least_8) (fun x hx => (hno x hx).elim) ⟨by decide, by decide⟩ ⟨by decide, by decide⟩ (s_zne C0 (d_X11_least_11) (by decide) hgz hgz (fun _ _ _ h => h) (s_ic C0 (d_X11_least_14) hgz (s_goto C0 (tgt := 19) (d_X11_least_15) (by decide) hgz (fun _ _ _ h => h)) (okn rfl)))))))) (okn rfl)),
  s_ic C0 (d_X11_least_18) hgz (fun _ _ _ h => h) (okn rfl),
  s_ic C0 (d_X11_least_19) hgz (s_ic C0 (d_X11_least_20) hgz (s_callV C0 hE (c_X11_bad l) wg1359 wg1356 wg1358 ws82 wg12 ⟨by decide, by decide⟩ (by decide +kernel) (c0 := 11) rfl ⟨by decide, by decide⟩ ⟨by decide, by decide⟩ (d_X11_least_21) (fun x hx => (hno x hx).elim) ⟨by decide, by decide⟩ ⟨by decide, by decide⟩ (s_zne C0 (d_X11_least_24) (by decide) hgz hgz (fun _ _ _ h => h) (s_aln C0 (d_X11_least_27) hgz (s_iln C0 (d_X11_least_28) hgz (s_ic C0 (d_X11_least_29) hgz (s_ic C0 (d_X11_least_30) hgz (s_callS C0 hE (c_X11_in l) wg1355 wg1353 wg1354 wg12 ⟨by decide, by decide⟩ (by decide +kernel) ⟨by decide, by decide⟩ ⟨by decide, by decide⟩ (d_X11_least_31) (fun x hx => (hno x hx).elim) ⟨by decide, by decide⟩ ⟨by decide, by decide⟩ (s_zne C0 (d_X11_least_34) (by decide) hgz hgz (fun _ _ _ h => h) (s_ic C0 (d_X11_least_37) hgz (s_goto C0 (tgt := 42) (d_X11_least_38) (by decide) hgz (fun _ _ _ h => h)) (okn rfl)))) (okn rfl)) (okn rfl)))))) (okn rfl)) (okn rfl),
  s_ic C0 (d_X11_least_41) hgz (fun _ _ _ h => h) (okn rfl),
  s_ic C0 (d_X11_least_42) hgz (s_ic C0 (d_X11_least_43) hgz (s_callV C0 hE (c_X11_bad l) wg1359 wg1356 wg1358 ws82 wg12 ⟨by decide, by decide⟩ (by decide +kernel) (c0 := 11) rfl ⟨by decide, by decide⟩ ⟨by decide, by decide⟩ (d_X11_least_44) (fun x hx => (hno x hx).elim) ⟨by decide, by decide⟩ ⟨by decide, by decide⟩ (s_zeq C0 (d_X11_least_47) (by decide) hgz hgz (fun _ _ _ h => h) (fun _ _ _ h => h))) (okn rfl)) (okn rfl),
  s_ic C0 (d_X11_least_50) hgz (s_ri C0 hr (d_X11_least_51) ⟨by decide, by decide⟩) (okn rfl),
  s_aln C0 (d_X11_least_52) hgz (s_iln C0 (d_X11_least_53) hgz (s_callV C0 hE (c_X11_findLeast l) wg1558 wg1555 wg1557 ws112 wg12 ⟨by decide, by decide⟩ (by decide +kernel) (c0 := 11) rfl ⟨by decide, by decide⟩ ⟨by decide, by decide⟩ (d_X11_least_54) (fun x hx => (hno x hx).elim) ⟨by decide, by decide⟩ ⟨by decide, by decide⟩ (s_iln C0 (d_X11_least_57) hgz (s_zne C0 (d_X11_least_58) (by decide) hgz hgz (fun _ _ _ h => h) (s_aln C0 (d_X11_least_61) hgz (s_gi C0 (j := 43) (c0 := 11) rfl gX11 (by decide) rfl (by decide) wg1244 (d_X11_least_62) hgz (s_goto C0 (tgt := 72) (d_X11_least_65) (by decide) hgz (fun _ _ _ h => h)))))))),
  s_aln C0 (d_X11_least_68) hgz (s_gi C0 (j := 44) (c0 := 11) rfl gX11 (by decide) rfl (by decide) wg1245 (d_X11_least_69) hgz (fun _ _ _ h => h)),
  s_ri C0 hr (d_X11_least_72) ⟨by decide, by decide⟩⟩
theorem c_X11_least (l : Launch) : Ctr l yX11_least cX11_least 3 (some .int) 16 340 0 (fun sx => (nf G_X11_least)) := ctr_of (by decide) gz gz ⟨rfl, rfl⟩ (fun p e s m args below meth c D ca ad sx sy A Q as M C0 hE hr hno hF => P_X11_least (L_X11_least C0 hE hr hno) hF)
theorem wg1239 : Cond.fieldLink "WeighedHallModel" 208 "WeighedHallModel" "readLends" "I" ∈ GT := gt_mem 1359 (by decide +kernel) rfl
theorem wg1219 : Cond.fieldLink "WeighedHallModel" 46 "WeighedHallModel" "readLend" "[[I" ∈ GT := gt_mem 1339 (by decide +kernel) rfl
theorem d_X11_lending_0 : decode cX11_lending 0 = .ok (.aload_n 0, 1) := by decide +kernel
theorem d_X11_lending_1 : decode cX11_lending 1 = .ok (.bipush 12, 2) := by decide +kernel
theorem d_X11_lending_3 : decode cX11_lending 3 = .ok (.iconst 5, 1) := by decide +kernel
theorem d_X11_lending_4 : decode cX11_lending 4 = .ok (.bipush 14, 2) := by decide +kernel
theorem d_X11_lending_6 : decode cX11_lending 6 = .ok (.iconst 4, 1) := by decide +kernel
theorem d_X11_lending_7 : decode cX11_lending 7 = .ok (.iconst 0, 1) := by decide +kernel
theorem d_X11_lending_8 : decode cX11_lending 8 = .ok (.iconst 0, 1) := by decide +kernel
theorem d_X11_lending_9 : decode cX11_lending 9 = .ok (.invokestatic 157, 3) := by decide +kernel
theorem d_X11_lending_12 : decode cX11_lending 12 = .ok (.invokevirtual 161, 3) := by decide +kernel
theorem d_X11_lending_15 : decode cX11_lending 15 = .ok (.ifCond .ne 15, 3) := by decide +kernel
theorem d_X11_lending_18 : decode cX11_lending 18 = .ok (.aload_n 0, 1) := by decide +kernel
theorem d_X11_lending_19 : decode cX11_lending 19 = .ok (.iconst 1, 1) := by decide +kernel
theorem d_X11_lending_20 : decode cX11_lending 20 = .ok (.aload_n 0, 1) := by decide +kernel
theorem d_X11_lending_21 : decode cX11_lending 21 = .ok (.getfield 115, 3) := by decide +kernel
theorem d_X11_lending_24 : decode cX11_lending 24 = .ok (.invokevirtual 135, 3) := by decide +kernel
theorem d_X11_lending_27 : decode cX11_lending 27 = .ok (.goto 21, 3) := by decide +kernel
theorem d_X11_lending_30 : decode cX11_lending 30 = .ok (.aload_n 0, 1) := by decide +kernel
theorem d_X11_lending_31 : decode cX11_lending 31 = .ok (.getfield 208, 3) := by decide +kernel
theorem d_X11_lending_34 : decode cX11_lending 34 = .ok (.bipush 20, 2) := by decide +kernel
theorem d_X11_lending_36 : decode cX11_lending 36 = .ok (.if_icmp .ne 12, 3) := by decide +kernel
theorem d_X11_lending_39 : decode cX11_lending 39 = .ok (.aload_n 0, 1) := by decide +kernel
theorem d_X11_lending_40 : decode cX11_lending 40 = .ok (.iconst 3, 1) := by decide +kernel
theorem d_X11_lending_41 : decode cX11_lending 41 = .ok (.aload_n 0, 1) := by decide +kernel
theorem d_X11_lending_42 : decode cX11_lending 42 = .ok (.getfield 115, 3) := by decide +kernel
theorem d_X11_lending_45 : decode cX11_lending 45 = .ok (.invokevirtual 135, 3) := by decide +kernel
theorem d_X11_lending_48 : decode cX11_lending 48 = .ok (.aload_n 0, 1) := by decide +kernel
theorem d_X11_lending_49 : decode cX11_lending 49 = .ok (.getfield 122, 3) := by decide +kernel
theorem d_X11_lending_52 : decode cX11_lending 52 = .ok (.ifCond .eq 4, 3) := by decide +kernel
theorem d_X11_lending_55 : decode cX11_lending 55 = .ok (.return_, 1) := by decide +kernel
theorem d_X11_lending_56 : decode cX11_lending 56 = .ok (.aload_n 0, 1) := by decide +kernel
theorem d_X11_lending_57 : decode cX11_lending 57 = .ok (.invokevirtual 174, 3) := by decide +kernel
theorem d_X11_lending_60 : decode cX11_lending 60 = .ok (.aload_n 0, 1) := by decide +kernel
theorem d_X11_lending_61 : decode cX11_lending 61 = .ok (.getfield 46, 3) := by decide +kernel
theorem d_X11_lending_64 : decode cX11_lending 64 = .ok (.aload_n 0, 1) := by decide +kernel
theorem d_X11_lending_65 : decode cX11_lending 65 = .ok (.getfield 208, 3) := by decide +kernel
theorem d_X11_lending_68 : decode cX11_lending 68 = .ok (.aaload, 1) := by decide +kernel
theorem d_X11_lending_69 : decode cX11_lending 69 = .ok (.astore_n 1, 1) := by decide +kernel
theorem d_X11_lending_70 : decode cX11_lending 70 = .ok (.aload_n 1, 1) := by decide +kernel
theorem d_X11_lending_71 : decode cX11_lending 71 = .ok (.iconst 0, 1) := by decide +kernel
theorem d_X11_lending_72 : decode cX11_lending 72 = .ok (.aload_n 0, 1) := by decide +kernel
theorem d_X11_lending_73 : decode cX11_lending 73 = .ok (.iconst 0, 1) := by decide +kernel
theorem d_X11_lending_74 : decode cX11_lending 74 = .ok (.aload_n 0, 1) := by decide +kernel
theorem d_X11_lending_75 : decode cX11_lending 75 = .ok (.getfield 23, 3) := by decide +kernel
theorem d_X11_lending_78 : decode cX11_lending 78 = .ok (.iconst 1, 1) := by decide +kernel
theorem d_X11_lending_79 : decode cX11_lending 79 = .ok (.iaload, 1) := by decide +kernel
theorem d_X11_lending_80 : decode cX11_lending 80 = .ok (.iconst 1, 1) := by decide +kernel
theorem d_X11_lending_81 : decode cX11_lending 81 = .ok (.isub, 1) := by decide +kernel
theorem d_X11_lending_82 : decode cX11_lending 82 = .ok (.invokevirtual 177, 3) := by decide +kernel
theorem d_X11_lending_85 : decode cX11_lending 85 = .ok (.iastore, 1) := by decide +kernel
theorem d_X11_lending_86 : decode cX11_lending 86 = .ok (.aload_n 0, 1) := by decide +kernel
theorem d_X11_lending_87 : decode cX11_lending 87 = .ok (.invokevirtual 128, 3) := by decide +kernel
theorem d_X11_lending_90 : decode cX11_lending 90 = .ok (.aload_n 0, 1) := by decide +kernel
theorem d_X11_lending_91 : decode cX11_lending 91 = .ok (.getfield 115, 3) := by decide +kernel
theorem d_X11_lending_94 : decode cX11_lending 94 = .ok (.istore_n 2, 1) := by decide +kernel
theorem d_X11_lending_95 : decode cX11_lending 95 = .ok (.aload_n 1, 1) := by decide +kernel
theorem d_X11_lending_96 : decode cX11_lending 96 = .ok (.iconst 1, 1) := by decide +kernel
theorem d_X11_lending_97 : decode cX11_lending 97 = .ok (.aload_n 0, 1) := by decide +kernel
theorem d_X11_lending_98 : decode cX11_lending 98 = .ok (.iconst 0, 1) := by decide +kernel
theorem d_X11_lending_99 : decode cX11_lending 99 = .ok (.aload_n 0, 1) := by decide +kernel
theorem d_X11_lending_100 : decode cX11_lending 100 = .ok (.getfield 23, 3) := by decide +kernel
theorem d_X11_lending_103 : decode cX11_lending 103 = .ok (.iconst 0, 1) := by decide +kernel
theorem d_X11_lending_104 : decode cX11_lending 104 = .ok (.iaload, 1) := by decide +kernel
theorem d_X11_lending_105 : decode cX11_lending 105 = .ok (.iconst 1, 1) := by decide +kernel
theorem d_X11_lending_106 : decode cX11_lending 106 = .ok (.isub, 1) := by decide +kernel
theorem d_X11_lending_107 : decode cX11_lending 107 = .ok (.invokevirtual 177, 3) := by decide +kernel
theorem d_X11_lending_110 : decode cX11_lending 110 = .ok (.iastore, 1) := by decide +kernel
theorem d_X11_lending_111 : decode cX11_lending 111 = .ok (.aload_n 0, 1) := by decide +kernel
theorem d_X11_lending_112 : decode cX11_lending 112 = .ok (.getfield 122, 3) := by decide +kernel
theorem d_X11_lending_115 : decode cX11_lending 115 = .ok (.ifCond .ne 25, 3) := by decide +kernel
theorem d_X11_lending_118 : decode cX11_lending 118 = .ok (.aload_n 1, 1) := by decide +kernel
theorem d_X11_lending_119 : decode cX11_lending 119 = .ok (.iconst 1, 1) := by decide +kernel
theorem d_X11_lending_120 : decode cX11_lending 120 = .ok (.iaload, 1) := by decide +kernel
theorem d_X11_lending_121 : decode cX11_lending 121 = .ok (.aload_n 0, 1) := by decide +kernel
theorem d_X11_lending_122 : decode cX11_lending 122 = .ok (.getfield 37, 3) := by decide +kernel
theorem d_X11_lending_125 : decode cX11_lending 125 = .ok (.aload_n 1, 1) := by decide +kernel
theorem d_X11_lending_126 : decode cX11_lending 126 = .ok (.iconst 0, 1) := by decide +kernel
theorem d_X11_lending_127 : decode cX11_lending 127 = .ok (.iaload, 1) := by decide +kernel
theorem d_X11_lending_128 : decode cX11_lending 128 = .ok (.aaload, 1) := by decide +kernel
theorem d_X11_lending_129 : decode cX11_lending 129 = .ok (.iconst 0, 1) := by decide +kernel
theorem d_X11_lending_130 : decode cX11_lending 130 = .ok (.iaload, 1) := by decide +kernel
theorem d_X11_lending_131 : decode cX11_lending 131 = .ok (.if_icmp .ne 9, 3) := by decide +kernel
theorem d_X11_lending_134 : decode cX11_lending 134 = .ok (.aload_n 0, 1) := by decide +kernel
theorem d_X11_lending_135 : decode cX11_lending 135 = .ok (.iconst 2, 1) := by decide +kernel
theorem d_X11_lending_136 : decode cX11_lending 136 = .ok (.iload_n 2, 1) := by decide +kernel
theorem d_X11_lending_137 : decode cX11_lending 137 = .ok (.invokevirtual 135, 3) := by decide +kernel
theorem d_X11_lending_140 : decode cX11_lending 140 = .ok (.aload_n 1, 1) := by decide +kernel
theorem d_X11_lending_141 : decode cX11_lending 141 = .ok (.iconst 2, 1) := by decide +kernel
theorem d_X11_lending_142 : decode cX11_lending 142 = .ok (.aload_n 0, 1) := by decide +kernel
theorem d_X11_lending_143 : decode cX11_lending 143 = .ok (.iconst 0, 1) := by decide +kernel
theorem d_X11_lending_144 : decode cX11_lending 144 = .ok (.bipush 119, 2) := by decide +kernel
theorem d_X11_lending_146 : decode cX11_lending 146 = .ok (.invokevirtual 177, 3) := by decide +kernel
theorem d_X11_lending_149 : decode cX11_lending 149 = .ok (.iastore, 1) := by decide +kernel
theorem d_X11_lending_150 : decode cX11_lending 150 = .ok (.aload_n 1, 1) := by decide +kernel
theorem d_X11_lending_151 : decode cX11_lending 151 = .ok (.iconst 3, 1) := by decide +kernel
theorem d_X11_lending_152 : decode cX11_lending 152 = .ok (.aload_n 0, 1) := by decide +kernel
theorem d_X11_lending_153 : decode cX11_lending 153 = .ok (.aload_n 1, 1) := by decide +kernel
theorem d_X11_lending_154 : decode cX11_lending 154 = .ok (.iconst 2, 1) := by decide +kernel
theorem d_X11_lending_155 : decode cX11_lending 155 = .ok (.iaload, 1) := by decide +kernel
theorem d_X11_lending_156 : decode cX11_lending 156 = .ok (.iconst 1, 1) := by decide +kernel
theorem d_X11_lending_157 : decode cX11_lending 157 = .ok (.iadd, 1) := by decide +kernel
theorem d_X11_lending_158 : decode cX11_lending 158 = .ok (.bipush 120, 2) := by decide +kernel
theorem d_X11_lending_160 : decode cX11_lending 160 = .ok (.invokevirtual 177, 3) := by decide +kernel
theorem d_X11_lending_163 : decode cX11_lending 163 = .ok (.iastore, 1) := by decide +kernel
theorem d_X11_lending_164 : decode cX11_lending 164 = .ok (.aload_n 0, 1) := by decide +kernel
theorem d_X11_lending_165 : decode cX11_lending 165 = .ok (.dup, 1) := by decide +kernel
theorem d_X11_lending_166 : decode cX11_lending 166 = .ok (.getfield 208, 3) := by decide +kernel
theorem d_X11_lending_169 : decode cX11_lending 169 = .ok (.iconst 1, 1) := by decide +kernel
theorem d_X11_lending_170 : decode cX11_lending 170 = .ok (.iadd, 1) := by decide +kernel
theorem d_X11_lending_171 : decode cX11_lending 171 = .ok (.putfield 208, 3) := by decide +kernel
theorem d_X11_lending_174 : decode cX11_lending 174 = .ok (.aload_n 0, 1) := by decide +kernel
theorem d_X11_lending_175 : decode cX11_lending 175 = .ok (.invokevirtual 185, 3) := by decide +kernel
theorem d_X11_lending_178 : decode cX11_lending 178 = .ok (.return_, 1) := by decide +kernel
set_option maxRecDepth 100000 in
theorem L_X11_lending {p : Program} {l : Launch} {e : Env} {s : State} {m : MethodId} {args : Array Value} {below : List Frame} {meth : Method} {c : Code} {D : va_G} {ca : Nat → ClassId} {ad sx sy : Nat → Nat} {A : Nat → Prop} {Q : QT} (C0 : CX p s m args meth c cX11_lending 3 yX11_lending.cls D ca ad A) (hE : EX sx sy A s s.heap) (hr : meth.sig.returnType = none) (hno : ∀ x ∈ c.exceptionTable.toList, False) : R_X11_lending (JW p l e { frames := 14, cells := 0, slots := 6 * 0, locals := 286 } s m args below meth c 3 D ca ad A (vx_MQ below (Qn D ca ad A Q) (Qx D ca ad A Q) args s 0 (6 * 0) A) gz gz true) Q := ⟨s_aln C0 (d_X11_lending_0) hgz (s_bi C0 (d_X11_lending_1) hgz (s_ic C0 (d_X11_lending_3) hgz (s_bi C0 (d_X11_lending_4) hgz (s_ic C0 (d_X11_lending_6) hgz (s_ic C0 (d_X11_lending_7) hgz (s_ic C0 (d_X11_lending_8) hgz (s_callS C0 hE (c_X11_six l) wg1382 wg1380 wg1381 wg12 ⟨by decide, by decide⟩ (by decide +kernel) ⟨by decide, by decide⟩ ⟨by decide, by decide⟩ (d_X11_lending_9) (fun x hx => (hno x hx).elim) ⟨by decide, by decide⟩ ⟨by decide, by decide⟩ (s_callV C0 hE (c_X11_isWord l) wg1387 wg1384 wg1386 ws88 wg12 ⟨by decide, by decide⟩ (by decide +kernel) (c0 := 11) rfl ⟨by decide, by decide⟩ ⟨by decide, by decide⟩ (d_X11_lending_12) (fun x hx => (hno x hx).elim) ⟨by decide, by decide⟩ ⟨by decide, by decide⟩ (s_zne C0 (d_X11_lending_15) (by decide) hgz hgz (fun _ _ _ h => h) (s_aln C0 (d_X11_lending_18) hgz (s_ic C0 (d_X11_lending_19) hgz (s_aln C0 (d_X11_lending_20) hgz (s_gi C0 (j := 4) (c0 := 11) rfl gX11 (by decide) rfl (by decide) wg1205 (d_X11_lending_21) hgz (s_callV C0 hE (c_X11_wrong l) wg1398 wg1395 wg1397 ws90 wg12 ⟨by decide, by decide⟩ (by decide +kernel) (c0 := 11) rfl ⟨by decide, by decide⟩ ⟨by decide, by decide⟩ (d_X11_lending_24) (fun x hx => (hno x hx).elim) ⟨by decide, by decide⟩ ⟨by decide, by decide⟩ (s_goto C0 (tgt := 48) (d_X11_lending_27) (by decide) hgz (fun _ _ _ h => h))))) (okn rfl)))))) (okn rfl)) (okn rfl)) (okn rfl)) (okn rfl) rfl) (okn rfl)) (okn rfl) rfl),
  s_aln C0 (d_X11_lending_30) hgz (s_gi C0 (j := 38) (c0 := 11) rfl gX11 (by decide) rfl (by decide) wg1239 (d_X11_lending_31) hgz (s_bi C0 (d_X11_lending_34) hgz (s_cne C0 (d_X11_lending_36) (by decide) hgz hgz (fun _ _ _ h => h) (s_aln C0 (d_X11_lending_39) hgz (s_ic C0 (d_X11_lending_40) hgz (s_aln C0 (d_X11_lending_41) hgz (s_gi C0 (j := 4) (c0 := 11) rfl gX11 (by decide) rfl (by decide) wg1205 (d_X11_lending_42) hgz (s_callV C0 hE (c_X11_wrong l) wg1398 wg1395 wg1397 ws90 wg12 ⟨by decide, by decide⟩ (by decide +kernel) (c0 := 11) rfl ⟨by decide, by decide⟩ ⟨by decide, by decide⟩ (d_X11_lending_45) (fun x hx => (hno x hx).elim) ⟨by decide, by decide⟩ ⟨by decide, by decide⟩ (fun _ _ _ h => h)))) (okn rfl)))) (okn rfl) rfl)),
  s_aln C0 (d_X11_lending_48) hgz (s_gi C0 (j := 5) (c0 := 11) rfl gX11 (by decide) rfl (by decide) wg1206 (d_X11_lending_49) hgz (s_zeq C0 (d_X11_lending_52) (by decide) hgz hgz (fun _ _ _ h => h) (s_rv C0 hr (d_X11_lending_55) ⟨by decide, by decide⟩))),
  s_aln C0 (d_X11_lending_56) hgz (s_callV C0 hE (c_X11_skipWord l) wg1406 wg1403 wg1405 ws92 wg12 ⟨by decide, by decide⟩ (by decide +kernel) (c0 := 11) rfl ⟨by decide, by decide⟩ ⟨by decide, by decide⟩ (d_X11_lending_57) (fun x hx => (hno x hx).elim) ⟨by decide, by decide⟩ ⟨by decide, by decide⟩ (s_aln C0 (d_X11_lending_60) hgz (s_gr C0 (j := 18) (c0 := 11) rfl gX11 (by decide) rfl rfl wg1219 (d_X11_lending_61) hgz (s_aln C0 (d_X11_lending_64) hgz (s_gi C0 (j := 38) (c0 := 11) rfl gX11 (by decide) rfl (by decide) wg1239 (d_X11_lending_65) hgz (s_aa C0 (by decide) (by decide) rfl rfl (d_X11_lending_68) hgz (s_asn C0 (d_X11_lending_69) hgz (s_aln C0 (d_X11_lending_70) hgz (s_ic C0 (d_X11_lending_71) hgz (s_aln C0 (d_X11_lending_72) hgz (s_ic C0 (d_X11_lending_73) hgz (s_aln C0 (d_X11_lending_74) hgz (s_gr C0 (j := 11) (c0 := 11) rfl gX11 (by decide) rfl rfl wg1212 (d_X11_lending_75) hgz (s_ic C0 (d_X11_lending_78) hgz (s_ia C0 (d_X11_lending_79) hgz (s_ic C0 (d_X11_lending_80) hgz (s_sub C0 (d_X11_lending_81) hgz (s_callV C0 hE (c_X11_number l) wg1410 wg1407 wg1409 ws93 wg12 ⟨by decide, by decide⟩ (by decide +kernel) (c0 := 11) rfl ⟨by decide, by decide⟩ ⟨by decide, by decide⟩ (d_X11_lending_82) (fun x hx => (hno x hx).elim) ⟨by decide, by decide⟩ ⟨by decide, by decide⟩ (s_iax C0 (d_X11_lending_85) hgz (s_aln C0 (d_X11_lending_86) hgz (s_callV C0 hE (c_X11_blanks l) wg1367 wg1364 wg1366 ws84 wg12 ⟨by decide, by decide⟩ (by decide +kernel) (c0 := 11) rfl ⟨by decide, by decide⟩ ⟨by decide, by decide⟩ (d_X11_lending_87) (fun x hx => (hno x hx).elim) ⟨by decide, by decide⟩ ⟨by decide, by decide⟩ (s_aln C0 (d_X11_lending_90) hgz (s_gi C0 (j := 4) (c0 := 11) rfl gX11 (by decide) rfl (by decide) wg1205 (d_X11_lending_91) hgz (s_isn C0 (d_X11_lending_94) hgz (s_aln C0 (d_X11_lending_95) hgz (s_ic C0 (d_X11_lending_96) hgz (s_aln C0 (d_X11_lending_97) hgz (s_ic C0 (d_X11_lending_98) hgz (s_aln C0 (d_X11_lending_99) hgz (s_gr C0 (j := 11) (c0 := 11) rfl gX11 (by decide) rfl rfl wg1212 (d_X11_lending_100) hgz (s_ic C0 (d_X11_lending_103) hgz (s_ia C0 (d_X11_lending_104) hgz (s_ic C0 (d_X11_lending_105) hgz (s_sub C0 (d_X11_lending_106) hgz (s_callV C0 hE (c_X11_number l) wg1410 wg1407 wg1409 ws93 wg12 ⟨by decide, by decide⟩ (by decide +kernel) (c0 := 11) rfl ⟨by decide, by decide⟩ ⟨by decide, by decide⟩ (d_X11_lending_107) (fun x hx => (hno x hx).elim) ⟨by decide, by decide⟩ ⟨by decide, by decide⟩ (s_iax C0 (d_X11_lending_110) hgz (s_aln C0 (d_X11_lending_111) hgz (s_gi C0 (j := 5) (c0 := 11) rfl gX11 (by decide) rfl (by decide) wg1206 (d_X11_lending_112) hgz (s_zne C0 (d_X11_lending_115) (by decide) hgz hgz (fun _ _ _ h => h) (s_aln C0 (d_X11_lending_118) hgz (s_ic C0 (d_X11_lending_119) hgz (s_ia C0 (d_X11_lending_120) hgz (s_aln C0 (d_X11_lending_121) hgz (s_gr C0 (j := 15) (c0 := 11) rfl gX11 (by decide) rfl rfl wg1216 (d_X11_lending_122) hgz (s_aln C0 (d_X11_lending_125) hgz (s_ic C0 (d_X11_lending_126) hgz (s_ia C0 (d_X11_lending_127) hgz (s_aa C0 (by decide) (by decide) rfl rfl (d_X11_lending_128) hgz (s_ic C0 (d_X11_lending_129) hgz (s_ia C0 (d_X11_lending_130) hgz (s_cne C0 (d_X11_lending_131) (by decide) hgz hgz (fun _ _ _ h => h) (s_aln C0 (d_X11_lending_134) hgz (s_ic C0 (d_X11_lending_135) hgz (s_iln C0 (d_X11_lending_136) hgz (s_callV C0 hE (c_X11_wrong l) wg1398 wg1395 wg1397 ws90 wg12 ⟨by decide, by decide⟩ (by decide +kernel) (c0 := 11) rfl ⟨by decide, by decide⟩ ⟨by decide, by decide⟩ (d_X11_lending_137) (fun x hx => (hno x hx).elim) ⟨by decide, by decide⟩ ⟨by decide, by decide⟩ (fun _ _ _ h => h))) (okn rfl))))) (okn rfl)))) (okn rfl)))))) (okn rfl))))))))) (okn rfl))) (okn rfl)))) (okn rfl))) (okn rfl))))))))))) (okn rfl))) (okn rfl)))) (okn rfl))) (okn rfl)))))))))),
  s_aln C0 (d_X11_lending_140) hgz (s_ic C0 (d_X11_lending_141) hgz (s_aln C0 (d_X11_lending_142) hgz (s_ic C0 (d_X11_lending_143) hgz (s_bi C0 (d_X11_lending_144) hgz (s_callV C0 hE (c_X11_number l) wg1410 wg1407 wg1409 ws93 wg12 ⟨by decide, by decide⟩ (by decide +kernel) (c0 := 11) rfl ⟨by decide, by decide⟩ ⟨by decide, by decide⟩ (d_X11_lending_146) (fun x hx => (hno x hx).elim) ⟨by decide, by decide⟩ ⟨by decide, by decide⟩ (s_iax C0 (d_X11_lending_149) hgz (s_aln C0 (d_X11_lending_150) hgz (s_ic C0 (d_X11_lending_151) hgz (s_aln C0 (d_X11_lending_152) hgz (s_aln C0 (d_X11_lending_153) hgz (s_ic C0 (d_X11_lending_154) hgz (s_ia C0 (d_X11_lending_155) hgz (s_ic C0 (d_X11_lending_156) hgz (s_add C0 (d_X11_lending_157) hgz (s_bi C0 (d_X11_lending_158) hgz (s_callV C0 hE (c_X11_number l) wg1410 wg1407 wg1409 ws93 wg12 ⟨by decide, by decide⟩ (by decide +kernel) (c0 := 11) rfl ⟨by decide, by decide⟩ ⟨by decide, by decide⟩ (d_X11_lending_160) (fun x hx => (hno x hx).elim) ⟨by decide, by decide⟩ ⟨by decide, by decide⟩ (s_iax C0 (d_X11_lending_163) hgz (s_aln C0 (d_X11_lending_164) hgz (s_dup C0 (d_X11_lending_165) hgz (s_gi C0 (j := 38) (c0 := 11) rfl gX11 (by decide) rfl (by decide) wg1239 (d_X11_lending_166) hgz (s_ic C0 (d_X11_lending_169) hgz (s_add C0 (d_X11_lending_170) hgz (s_pi C0 (j := 38) (c0 := 11) rfl gX11 tyX11_ok nmX11 (by decide) rfl (by decide) rfl rfl wg1239 (d_X11_lending_171) hgz (s_aln C0 (d_X11_lending_174) hgz (s_callV C0 hE (c_X11_closes l) wg1422 wg1419 wg1421 ws95 wg12 ⟨by decide, by decide⟩ (by decide +kernel) (c0 := 11) rfl ⟨by decide, by decide⟩ ⟨by decide, by decide⟩ (d_X11_lending_175) (fun x hx => (hno x hx).elim) ⟨by decide, by decide⟩ ⟨by decide, by decide⟩ (s_rv C0 hr (d_X11_lending_178) ⟨by decide, by decide⟩))))) (okn rfl))))))) (okn rfl) rfl)) (okn rfl))) (okn rfl)))) (okn rfl))))) (okn rfl) rfl) (okn rfl))) (okn rfl))⟩
theorem c_X11_lending (l : Launch) : Ctr l yX11_lending cX11_lending 3 none 14 286 0 (fun sx => (nf G_X11_lending)) := ctr_of (by decide) gz gz ⟨rfl, rfl⟩ (fun p e s m args below meth c D ca ad sx sy A Q as M C0 hE hr hno hF => P_X11_lending (L_X11_lending C0 hE hr hno) hF)
