theorem d_X11_owed_0 : decode cX11_owed 0 = .ok (.aload_n 0, 1) := by decide +kernel
theorem d_X11_owed_1 : decode cX11_owed 1 = .ok (.iconst 0, 1) := by decide +kernel
theorem d_X11_owed_2 : decode cX11_owed 2 = .ok (.putfield 106, 3) := by decide +kernel
theorem d_X11_owed_5 : decode cX11_owed 5 = .ok (.aload_n 0, 1) := by decide +kernel
theorem d_X11_owed_6 : decode cX11_owed 6 = .ok (.iload_n 1, 1) := by decide +kernel
theorem d_X11_owed_7 : decode cX11_owed 7 = .ok (.iconst 0, 1) := by decide +kernel
theorem d_X11_owed_8 : decode cX11_owed 8 = .ok (.iconst 3, 1) := by decide +kernel
theorem d_X11_owed_9 : decode cX11_owed 9 = .ok (.invokestatic 140, 3) := by decide +kernel
theorem d_X11_owed_12 : decode cX11_owed 12 = .ok (.ifCond .eq 23, 3) := by decide +kernel
theorem d_X11_owed_15 : decode cX11_owed 15 = .ok (.iload_n 2, 1) := by decide +kernel
theorem d_X11_owed_16 : decode cX11_owed 16 = .ok (.iconst 0, 1) := by decide +kernel
theorem d_X11_owed_17 : decode cX11_owed 17 = .ok (.sipush 9999, 3) := by decide +kernel
theorem d_X11_owed_20 : decode cX11_owed 20 = .ok (.invokestatic 140, 3) := by decide +kernel
theorem d_X11_owed_23 : decode cX11_owed 23 = .ok (.ifCond .eq 12, 3) := by decide +kernel
theorem d_X11_owed_26 : decode cX11_owed 26 = .ok (.iload_n 3, 1) := by decide +kernel
theorem d_X11_owed_27 : decode cX11_owed 27 = .ok (.iconst 0, 1) := by decide +kernel
theorem d_X11_owed_28 : decode cX11_owed 28 = .ok (.iconst 1, 1) := by decide +kernel
theorem d_X11_owed_29 : decode cX11_owed 29 = .ok (.invokestatic 140, 3) := by decide +kernel
theorem d_X11_owed_32 : decode cX11_owed 32 = .ok (.ifCond .ne 7, 3) := by decide +kernel
theorem d_X11_owed_35 : decode cX11_owed 35 = .ok (.iconst 1, 1) := by decide +kernel
theorem d_X11_owed_36 : decode cX11_owed 36 = .ok (.goto 4, 3) := by decide +kernel
theorem d_X11_owed_39 : decode cX11_owed 39 = .ok (.iconst 0, 1) := by decide +kernel
theorem d_X11_owed_40 : decode cX11_owed 40 = .ok (.iconst 1, 1) := by decide +kernel
theorem d_X11_owed_41 : decode cX11_owed 41 = .ok (.iconst 1, 1) := by decide +kernel
theorem d_X11_owed_42 : decode cX11_owed 42 = .ok (.invokevirtual 188, 3) := by decide +kernel
theorem d_X11_owed_45 : decode cX11_owed 45 = .ok (.ifCond .eq 5, 3) := by decide +kernel
theorem d_X11_owed_48 : decode cX11_owed 48 = .ok (.iconst 0, 1) := by decide +kernel
theorem d_X11_owed_49 : decode cX11_owed 49 = .ok (.ireturn, 1) := by decide +kernel
theorem d_X11_owed_50 : decode cX11_owed 50 = .ok (.iconst 0, 1) := by decide +kernel
theorem d_X11_owed_51 : decode cX11_owed 51 = .ok (.istore 4, 2) := by decide +kernel
theorem d_X11_owed_53 : decode cX11_owed 53 = .ok (.bipush 24, 2) := by decide +kernel
theorem d_X11_owed_55 : decode cX11_owed 55 = .ok (.istore 5, 2) := by decide +kernel
theorem d_X11_owed_57 : decode cX11_owed 57 = .ok (.iconst 0, 1) := by decide +kernel
theorem d_X11_owed_58 : decode cX11_owed 58 = .ok (.istore 6, 2) := by decide +kernel
theorem d_X11_owed_60 : decode cX11_owed 60 = .ok (.iload 6, 2) := by decide +kernel
theorem d_X11_owed_62 : decode cX11_owed 62 = .ok (.bipush 16, 2) := by decide +kernel
theorem d_X11_owed_64 : decode cX11_owed 64 = .ok (.if_icmp .ge 64, 3) := by decide +kernel
theorem d_X11_owed_67 : decode cX11_owed 67 = .ok (.iload 6, 2) := by decide +kernel
theorem d_X11_owed_69 : decode cX11_owed 69 = .ok (.iload_n 1, 1) := by decide +kernel
theorem d_X11_owed_70 : decode cX11_owed 70 = .ok (.ishr, 1) := by decide +kernel
theorem d_X11_owed_71 : decode cX11_owed 71 = .ok (.iconst 1, 1) := by decide +kernel
theorem d_X11_owed_72 : decode cX11_owed 72 = .ok (.iand, 1) := by decide +kernel
theorem d_X11_owed_73 : decode cX11_owed 73 = .ok (.ifCond .ne 49, 3) := by decide +kernel
theorem d_X11_owed_76 : decode cX11_owed 76 = .ok (.aload_n 0, 1) := by decide +kernel
theorem d_X11_owed_77 : decode cX11_owed 77 = .ok (.iload 6, 2) := by decide +kernel
theorem d_X11_owed_79 : decode cX11_owed 79 = .ok (.invokevirtual 296, 3) := by decide +kernel
theorem d_X11_owed_82 : decode cX11_owed 82 = .ok (.ifCond .ne 40, 3) := by decide +kernel
theorem d_X11_owed_85 : decode cX11_owed 85 = .ok (.aload_n 0, 1) := by decide +kernel
theorem d_X11_owed_86 : decode cX11_owed 86 = .ok (.iload 6, 2) := by decide +kernel
theorem d_X11_owed_88 : decode cX11_owed 88 = .ok (.iconst 1, 1) := by decide +kernel
theorem d_X11_owed_89 : decode cX11_owed 89 = .ok (.iload_n 1, 1) := by decide +kernel
theorem d_X11_owed_90 : decode cX11_owed 90 = .ok (.ishl, 1) := by decide +kernel
theorem d_X11_owed_91 : decode cX11_owed 91 = .ok (.ior, 1) := by decide +kernel
theorem d_X11_owed_92 : decode cX11_owed 92 = .ok (.invokevirtual 296, 3) := by decide +kernel
theorem d_X11_owed_95 : decode cX11_owed 95 = .ok (.ifCond .eq 27, 3) := by decide +kernel
theorem d_X11_owed_98 : decode cX11_owed 98 = .ok (.iload 4, 2) := by decide +kernel
theorem d_X11_owed_100 : decode cX11_owed 100 = .ok (.iload 6, 2) := by decide +kernel
theorem d_X11_owed_102 : decode cX11_owed 102 = .ok (.invokestatic 278, 3) := by decide +kernel
theorem d_X11_owed_105 : decode cX11_owed 105 = .ok (.invokestatic 299, 3) := by decide +kernel
theorem d_X11_owed_108 : decode cX11_owed 108 = .ok (.iconst 3, 1) := by decide +kernel
theorem d_X11_owed_109 : decode cX11_owed 109 = .ok (.iload 6, 2) := by decide +kernel
theorem d_X11_owed_111 : decode cX11_owed 111 = .ok (.invokestatic 278, 3) := by decide +kernel
theorem d_X11_owed_114 : decode cX11_owed 114 = .ok (.isub, 1) := by decide +kernel
theorem d_X11_owed_115 : decode cX11_owed 115 = .ok (.invokestatic 299, 3) := by decide +kernel
theorem d_X11_owed_118 : decode cX11_owed 118 = .ok (.imul, 1) := by decide +kernel
theorem d_X11_owed_119 : decode cX11_owed 119 = .ok (.iadd, 1) := by decide +kernel
theorem d_X11_owed_120 : decode cX11_owed 120 = .ok (.istore 4, 2) := by decide +kernel
theorem d_X11_owed_122 : decode cX11_owed 122 = .ok (.iinc 6 1, 3) := by decide +kernel
theorem d_X11_owed_125 : decode cX11_owed 125 = .ok (.goto (-65), 3) := by decide +kernel
theorem d_X11_owed_128 : decode cX11_owed 128 = .ok (.iload 4, 2) := by decide +kernel
theorem d_X11_owed_130 : decode cX11_owed 130 = .ok (.iload_n 2, 1) := by decide +kernel
theorem d_X11_owed_131 : decode cX11_owed 131 = .ok (.imul, 1) := by decide +kernel
theorem d_X11_owed_132 : decode cX11_owed 132 = .ok (.istore 4, 2) := by decide +kernel
theorem d_X11_owed_134 : decode cX11_owed 134 = .ok (.iload 4, 2) := by decide +kernel
theorem d_X11_owed_136 : decode cX11_owed 136 = .ok (.istore 6, 2) := by decide +kernel
theorem d_X11_owed_138 : decode cX11_owed 138 = .ok (.iload 5, 2) := by decide +kernel
theorem d_X11_owed_140 : decode cX11_owed 140 = .ok (.istore 7, 2) := by decide +kernel
theorem d_X11_owed_142 : decode cX11_owed 142 = .ok (.iload 7, 2) := by decide +kernel
theorem d_X11_owed_144 : decode cX11_owed 144 = .ok (.ifCond .eq 21, 3) := by decide +kernel
theorem d_X11_owed_147 : decode cX11_owed 147 = .ok (.iload 6, 2) := by decide +kernel
theorem d_X11_owed_149 : decode cX11_owed 149 = .ok (.iload 7, 2) := by decide +kernel
theorem d_X11_owed_151 : decode cX11_owed 151 = .ok (.irem, 1) := by decide +kernel
theorem d_X11_owed_152 : decode cX11_owed 152 = .ok (.istore 8, 2) := by decide +kernel
theorem d_X11_owed_154 : decode cX11_owed 154 = .ok (.iload 7, 2) := by decide +kernel
theorem d_X11_owed_156 : decode cX11_owed 156 = .ok (.istore 6, 2) := by decide +kernel
theorem d_X11_owed_158 : decode cX11_owed 158 = .ok (.iload 8, 2) := by decide +kernel
theorem d_X11_owed_160 : decode cX11_owed 160 = .ok (.istore 7, 2) := by decide +kernel
theorem d_X11_owed_162 : decode cX11_owed 162 = .ok (.goto (-20), 3) := by decide +kernel
theorem d_X11_owed_165 : decode cX11_owed 165 = .ok (.iload_n 3, 1) := by decide +kernel
theorem d_X11_owed_166 : decode cX11_owed 166 = .ok (.ifCond .ne 11, 3) := by decide +kernel
theorem d_X11_owed_169 : decode cX11_owed 169 = .ok (.iload 4, 2) := by decide +kernel
theorem d_X11_owed_171 : decode cX11_owed 171 = .ok (.iload 6, 2) := by decide +kernel
theorem d_X11_owed_173 : decode cX11_owed 173 = .ok (.idiv, 1) := by decide +kernel
theorem d_X11_owed_174 : decode cX11_owed 174 = .ok (.goto 8, 3) := by decide +kernel
theorem d_X11_owed_177 : decode cX11_owed 177 = .ok (.iload 5, 2) := by decide +kernel
theorem d_X11_owed_179 : decode cX11_owed 179 = .ok (.iload 6, 2) := by decide +kernel
theorem d_X11_owed_181 : decode cX11_owed 181 = .ok (.idiv, 1) := by decide +kernel
theorem d_X11_owed_182 : decode cX11_owed 182 = .ok (.ireturn, 1) := by decide +kernel
set_option maxRecDepth 100000 in
theorem L_X11_owed {p : Program} {l : Launch} {e : Env} {s : State} {m : MethodId} {args : Array Value} {below : List Frame} {meth : Method} {c : Code} {D : va_G} {ca : Nat → ClassId} {ad sx sy : Nat → Nat} {A : Nat → Prop} {Q : QT} (C0 : CX p s m args meth c cX11_owed 9 yX11_owed.cls D ca ad A) (hE : EX sx sy A s s.heap) (hr : meth.sig.returnType = (some .int)) (hno : ∀ x ∈ c.exceptionTable.toList, False) : R_X11_owed (JW p l e { frames := 15, cells := 0, slots := 6 * 0, locals := 300 } s m args below meth c 9 D ca ad A (vx_MQ below (Qn D ca ad A Q) (Qx D ca ad A Q) args s 0 (6 * 0) A) gz gz true) Q := ⟨s_aln C0 (d_X11_owed_0) hgz (s_ic C0 (d_X11_owed_1) hgz (s_pi C0 (j := 0) (c0 := 11) rfl gX11 tyX11_ok nmX11 (by decide) rfl (by decide) rfl rfl wg1201 (d_X11_owed_2) hgz (s_aln C0 (d_X11_owed_5) hgz (s_iln C0 (d_X11_owed_6) hgz (s_ic C0 (d_X11_owed_7) hgz (s_ic C0 (d_X11_owed_8) hgz (s_callS C0 hE (c_X11_in l) wg1355 wg1353 wg1354 wg12 ⟨by decide, by decide⟩ (by decide +kernel) ⟨by decide, by decide⟩ ⟨by decide, by decide⟩ (d_X11_owed_9) (fun x hx => (hno x hx).elim) ⟨by decide, by decide⟩ ⟨by decide, by decide⟩ (s_zeq C0 (d_X11_owed_12) (by decide) hgz hgz (fun _ _ _ h => h) (s_iln C0 (d_X11_owed_15) hgz (s_ic C0 (d_X11_owed_16) hgz (s_si C0 (d_X11_owed_17) hgz (s_callS C0 hE (c_X11_in l) wg1355 wg1353 wg1354 wg12 ⟨by decide, by decide⟩ (by decide +kernel) ⟨by decide, by decide⟩ ⟨by decide, by decide⟩ (d_X11_owed_20) (fun x hx => (hno x hx).elim) ⟨by decide, by decide⟩ ⟨by decide, by decide⟩ (s_zeq C0 (d_X11_owed_23) (by decide) hgz hgz (fun _ _ _ h => h) (s_iln C0 (d_X11_owed_26) hgz (s_ic C0 (d_X11_owed_27) hgz (s_ic C0 (d_X11_owed_28) hgz (s_callS C0 hE (c_X11_in l) wg1355 wg1353 wg1354 wg12 ⟨by decide, by decide⟩ (by decide +kernel) ⟨by decide, by decide⟩ ⟨by decide, by decide⟩ (d_X11_owed_29) (fun x hx => (hno x hx).elim) ⟨by decide, by decide⟩ ⟨by decide, by decide⟩ (s_zne C0 (d_X11_owed_32) (by decide) hgz hgz (fun _ _ _ h => h) (fun _ _ _ h => h))) (okn rfl)) (okn rfl))))) (okn rfl) rfl) (okn rfl))))) (okn rfl)) (okn rfl))))) (okn rfl)),
  s_ic C0 (d_X11_owed_35) hgz (s_goto C0 (tgt := 40) (d_X11_owed_36) (by decide) hgz (fun _ _ _ h => h)) (okn rfl),
  s_ic C0 (d_X11_owed_39) hgz (fun _ _ _ h => h) (okn rfl),
  s_ic C0 (d_X11_owed_40) hgz (s_ic C0 (d_X11_owed_41) hgz (s_callV C0 hE (c_X11_bad l) wg1359 wg1356 wg1358 ws82 wg12 ⟨by decide, by decide⟩ (by decide +kernel) (c0 := 11) rfl ⟨by decide, by decide⟩ ⟨by decide, by decide⟩ (d_X11_owed_42) (fun x hx => (hno x hx).elim) ⟨by decide, by decide⟩ ⟨by decide, by decide⟩ (s_zeq C0 (d_X11_owed_45) (by decide) hgz hgz (fun _ _ _ h => h) (s_ic C0 (d_X11_owed_48) hgz (s_ri C0 hr (d_X11_owed_49) ⟨by decide, by decide⟩) (okn rfl)))) (okn rfl)) (okn rfl),
  s_ic C0 (d_X11_owed_50) hgz (s_is C0 (d_X11_owed_51) hgz (s_bi C0 (d_X11_owed_53) hgz (s_is C0 (d_X11_owed_55) hgz (s_ic C0 (d_X11_owed_57) hgz (s_is C0 (d_X11_owed_58) hgz (fun _ _ _ h => h)) (okn rfl))) (okn rfl) rfl)) (okn rfl),
  s_il C0 (d_X11_owed_60) hgz (s_bi C0 (d_X11_owed_62) hgz (s_cge C0 (d_X11_owed_64) (by decide) hgz hgz (fun _ _ _ h => h) (s_il C0 (d_X11_owed_67) hgz (s_iln C0 (d_X11_owed_69) hgz (s_shr C0 (d_X11_owed_70) hgz (s_ic C0 (d_X11_owed_71) hgz (s_and C0 (d_X11_owed_72) hgz (s_zne C0 (d_X11_owed_73) (by decide) hgz hgz (fun _ _ _ h => h) (s_aln C0 (d_X11_owed_76) hgz (s_il C0 (d_X11_owed_77) hgz (s_callV C0 hE (c_X11_winsBy l) wg1586 wg1583 wg1585 ws115 wg12 ⟨by decide, by decide⟩ (by decide +kernel) (c0 := 11) rfl ⟨by decide, by decide⟩ ⟨by decide, by decide⟩ (d_X11_owed_79) (fun x hx => (hno x hx).elim) ⟨by decide, by decide⟩ ⟨by decide, by decide⟩ (s_zne C0 (d_X11_owed_82) (by decide) hgz hgz (fun _ _ _ h => h) (s_aln C0 (d_X11_owed_85) hgz (s_il C0 (d_X11_owed_86) hgz (s_ic C0 (d_X11_owed_88) hgz (s_iln C0 (d_X11_owed_89) hgz (s_shl C0 (d_X11_owed_90) hgz (s_or C0 (d_X11_owed_91) hgz (s_callV C0 hE (c_X11_winsBy l) wg1586 wg1583 wg1585 ws115 wg12 ⟨by decide, by decide⟩ (by decide +kernel) (c0 := 11) rfl ⟨by decide, by decide⟩ ⟨by decide, by decide⟩ (d_X11_owed_92) (fun x hx => (hno x hx).elim) ⟨by decide, by decide⟩ ⟨by decide, by decide⟩ (s_zeq C0 (d_X11_owed_95) (by decide) hgz hgz (fun _ _ _ h => h) (s_il C0 (d_X11_owed_98) hgz (s_il C0 (d_X11_owed_100) hgz (s_callS C0 hE (c_X11_ones l) wg1546 wg1544 wg1545 wg12 ⟨by decide, by decide⟩ (by decide +kernel) ⟨by decide, by decide⟩ ⟨by decide, by decide⟩ (d_X11_owed_102) (fun x hx => (hno x hx).elim) ⟨by decide, by decide⟩ ⟨by decide, by decide⟩ (s_callS C0 hE (c_X11_factorial l) wg1593 wg1591 wg1592 wg12 ⟨by decide, by decide⟩ (by decide +kernel) ⟨by decide, by decide⟩ ⟨by decide, by decide⟩ (d_X11_owed_105) (fun x hx => (hno x hx).elim) ⟨by decide, by decide⟩ ⟨by decide, by decide⟩ (s_ic C0 (d_X11_owed_108) hgz (s_il C0 (d_X11_owed_109) hgz (s_callS C0 hE (c_X11_ones l) wg1546 wg1544 wg1545 wg12 ⟨by decide, by decide⟩ (by decide +kernel) ⟨by decide, by decide⟩ ⟨by decide, by decide⟩ (d_X11_owed_111) (fun x hx => (hno x hx).elim) ⟨by decide, by decide⟩ ⟨by decide, by decide⟩ (s_sub C0 (d_X11_owed_114) hgz (s_callS C0 hE (c_X11_factorial l) wg1593 wg1591 wg1592 wg12 ⟨by decide, by decide⟩ (by decide +kernel) ⟨by decide, by decide⟩ ⟨by decide, by decide⟩ (d_X11_owed_115) (fun x hx => (hno x hx).elim) ⟨by decide, by decide⟩ ⟨by decide, by decide⟩ (s_mul C0 (d_X11_owed_118) hgz (s_add C0 (d_X11_owed_119) hgz (s_is C0 (d_X11_owed_120) hgz (fun _ _ _ h => h)))))))) (okn rfl))))))))))) (okn rfl)))))))))) (okn rfl)))))) (okn rfl) rfl),
  s_inc C0 (d_X11_owed_122) hgz (s_goto C0 (tgt := 60) (d_X11_owed_125) (by decide) hgz (fun _ _ _ h => h)),
  s_il C0 (d_X11_owed_128) hgz (s_iln C0 (d_X11_owed_130) hgz (s_mul C0 (d_X11_owed_131) hgz (s_is C0 (d_X11_owed_132) hgz (s_il C0 (d_X11_owed_134) hgz (s_is C0 (d_X11_owed_136) hgz (s_il C0 (d_X11_owed_138) hgz (s_is C0 (d_X11_owed_140) hgz (fun _ _ _ h => h)))))))),
  s_il C0 (d_X11_owed_142) hgz (s_zeq C0 (d_X11_owed_144) (by decide) hgz hgz (fun _ _ _ h => h) (s_il C0 (d_X11_owed_147) hgz (s_il C0 (d_X11_owed_149) hgz (s_rem C0 (d_X11_owed_151) hgz (s_is C0 (d_X11_owed_152) hgz (s_il C0 (d_X11_owed_154) hgz (s_is C0 (d_X11_owed_156) hgz (s_il C0 (d_X11_owed_158) hgz (s_is C0 (d_X11_owed_160) hgz (s_goto C0 (tgt := 142) (d_X11_owed_162) (by decide) hgz (fun _ _ _ h => h))))))))))),
  s_iln C0 (d_X11_owed_165) hgz (s_zne C0 (d_X11_owed_166) (by decide) hgz hgz (fun _ _ _ h => h) (s_il C0 (d_X11_owed_169) hgz (s_il C0 (d_X11_owed_171) hgz (s_div C0 (d_X11_owed_173) hgz (s_goto C0 (tgt := 182) (d_X11_owed_174) (by decide) hgz (fun _ _ _ h => h)))))),
  s_il C0 (d_X11_owed_177) hgz (s_il C0 (d_X11_owed_179) hgz (s_div C0 (d_X11_owed_181) hgz (fun _ _ _ h => h))),
  s_ri C0 hr (d_X11_owed_182) ⟨by decide, by decide⟩⟩
theorem c_X11_owed (l : Launch) : Ctr l yX11_owed cX11_owed 9 (some .int) 15 300 0 (fun sx => (nf G_X11_owed)) := ctr_of (by decide) gz gz ⟨rfl, rfl⟩ (fun p e s m args below meth c D ca ad sx sy A Q as M C0 hE hr hno hF => P_X11_owed (L_X11_owed C0 hE hr hno) hF)
