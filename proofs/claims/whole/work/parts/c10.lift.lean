theorem d_X11_thing_0 : decode cX11_thing 0 = .ok (.aload_n 0, 1) := by decide +kernel
theorem d_X11_thing_1 : decode cX11_thing 1 = .ok (.iconst 0, 1) := by decide +kernel
theorem d_X11_thing_2 : decode cX11_thing 2 = .ok (.putfield 106, 3) := by decide +kernel
theorem d_X11_thing_5 : decode cX11_thing 5 = .ok (.aload_n 0, 1) := by decide +kernel
theorem d_X11_thing_6 : decode cX11_thing 6 = .ok (.aload_n 0, 1) := by decide +kernel
theorem d_X11_thing_7 : decode cX11_thing 7 = .ok (.iload_n 1, 1) := by decide +kernel
theorem d_X11_thing_8 : decode cX11_thing 8 = .ok (.invokevirtual 220, 3) := by decide +kernel
theorem d_X11_thing_11 : decode cX11_thing 11 = .ok (.ifCond .ne 7, 3) := by decide +kernel
theorem d_X11_thing_14 : decode cX11_thing 14 = .ok (.iconst 1, 1) := by decide +kernel
theorem d_X11_thing_15 : decode cX11_thing 15 = .ok (.goto 4, 3) := by decide +kernel
theorem d_X11_thing_18 : decode cX11_thing 18 = .ok (.iconst 0, 1) := by decide +kernel
theorem d_X11_thing_19 : decode cX11_thing 19 = .ok (.iconst 1, 1) := by decide +kernel
theorem d_X11_thing_20 : decode cX11_thing 20 = .ok (.iconst 0, 1) := by decide +kernel
theorem d_X11_thing_21 : decode cX11_thing 21 = .ok (.invokevirtual 188, 3) := by decide +kernel
theorem d_X11_thing_24 : decode cX11_thing 24 = .ok (.ifCond .ne 26, 3) := by decide +kernel
theorem d_X11_thing_27 : decode cX11_thing 27 = .ok (.aload_n 0, 1) := by decide +kernel
theorem d_X11_thing_28 : decode cX11_thing 28 = .ok (.iload_n 2, 1) := by decide +kernel
theorem d_X11_thing_29 : decode cX11_thing 29 = .ok (.iconst 0, 1) := by decide +kernel
theorem d_X11_thing_30 : decode cX11_thing 30 = .ok (.iconst 3, 1) := by decide +kernel
theorem d_X11_thing_31 : decode cX11_thing 31 = .ok (.invokestatic 140, 3) := by decide +kernel
theorem d_X11_thing_34 : decode cX11_thing 34 = .ok (.ifCond .ne 7, 3) := by decide +kernel
theorem d_X11_thing_37 : decode cX11_thing 37 = .ok (.iconst 1, 1) := by decide +kernel
theorem d_X11_thing_38 : decode cX11_thing 38 = .ok (.goto 4, 3) := by decide +kernel
theorem d_X11_thing_41 : decode cX11_thing 41 = .ok (.iconst 0, 1) := by decide +kernel
theorem d_X11_thing_42 : decode cX11_thing 42 = .ok (.iconst 2, 1) := by decide +kernel
theorem d_X11_thing_43 : decode cX11_thing 43 = .ok (.iconst 1, 1) := by decide +kernel
theorem d_X11_thing_44 : decode cX11_thing 44 = .ok (.invokevirtual 188, 3) := by decide +kernel
theorem d_X11_thing_47 : decode cX11_thing 47 = .ok (.ifCond .eq 5, 3) := by decide +kernel
theorem d_X11_thing_50 : decode cX11_thing 50 = .ok (.iconst 0, 1) := by decide +kernel
theorem d_X11_thing_51 : decode cX11_thing 51 = .ok (.ireturn, 1) := by decide +kernel
theorem d_X11_thing_52 : decode cX11_thing 52 = .ok (.aload_n 0, 1) := by decide +kernel
theorem d_X11_thing_53 : decode cX11_thing 53 = .ok (.invokevirtual 223, 3) := by decide +kernel
theorem d_X11_thing_56 : decode cX11_thing 56 = .ok (.iload_n 2, 1) := by decide +kernel
theorem d_X11_thing_57 : decode cX11_thing 57 = .ok (.iconst 3, 1) := by decide +kernel
theorem d_X11_thing_58 : decode cX11_thing 58 = .ok (.if_icmp .ge 14, 3) := by decide +kernel
theorem d_X11_thing_61 : decode cX11_thing 61 = .ok (.aload_n 0, 1) := by decide +kernel
theorem d_X11_thing_62 : decode cX11_thing 62 = .ok (.getfield 37, 3) := by decide +kernel
theorem d_X11_thing_65 : decode cX11_thing 65 = .ok (.iload_n 1, 1) := by decide +kernel
theorem d_X11_thing_66 : decode cX11_thing 66 = .ok (.aaload, 1) := by decide +kernel
theorem d_X11_thing_67 : decode cX11_thing 67 = .ok (.iload_n 2, 1) := by decide +kernel
theorem d_X11_thing_68 : decode cX11_thing 68 = .ok (.iaload, 1) := by decide +kernel
theorem d_X11_thing_69 : decode cX11_thing 69 = .ok (.goto 9, 3) := by decide +kernel
theorem d_X11_thing_72 : decode cX11_thing 72 = .ok (.aload_n 0, 1) := by decide +kernel
theorem d_X11_thing_73 : decode cX11_thing 73 = .ok (.getfield 70, 3) := by decide +kernel
theorem d_X11_thing_76 : decode cX11_thing 76 = .ok (.iload_n 1, 1) := by decide +kernel
theorem d_X11_thing_77 : decode cX11_thing 77 = .ok (.iaload, 1) := by decide +kernel
theorem d_X11_thing_78 : decode cX11_thing 78 = .ok (.ireturn, 1) := by decide +kernel
set_option maxRecDepth 100000 in
theorem L_X11_thing {p : Program} {l : Launch} {e : Env} {s : State} {m : MethodId} {args : Array Value} {below : List Frame} {meth : Method} {c : Code} {D : va_G} {ca : Nat → ClassId} {ad sx sy : Nat → Nat} {A : Nat → Prop} {Q : QT} (C0 : CX p s m args meth c cX11_thing 3 yX11_thing.cls D ca ad A) (hE : EX sx sy A s s.heap) (hr : meth.sig.returnType = (some .int)) (hno : ∀ x ∈ c.exceptionTable.toList, False) : R_X11_thing (JW p l e { frames := 12, cells := 0, slots := 6 * 0, locals := 244 } s m args below meth c 3 D ca ad A (vx_MQ below (Qn D ca ad A Q) (Qx D ca ad A Q) args s 0 (6 * 0) A) gz gz true) Q := ⟨s_aln C0 (d_X11_thing_0) hgz (s_ic C0 (d_X11_thing_1) hgz (s_pi C0 (j := 0) (c0 := 11) rfl gX11 tyX11_ok nmX11 (by decide) rfl (by decide) rfl rfl wg1201 (d_X11_thing_2) hgz (s_aln C0 (d_X11_thing_5) hgz (s_aln C0 (d_X11_thing_6) hgz (s_iln C0 (d_X11_thing_7) hgz (s_callV C0 hE (c_X11_isThing l) wg1458 wg1455 wg1457 ws99 wg12 ⟨by decide, by decide⟩ (by decide +kernel) (c0 := 11) rfl ⟨by decide, by decide⟩ ⟨by decide, by decide⟩ (d_X11_thing_8) (fun x hx => (hno x hx).elim) ⟨by decide, by decide⟩ ⟨by decide, by decide⟩ (s_zne C0 (d_X11_thing_11) (by decide) hgz hgz (fun _ _ _ h => h) (s_ic C0 (d_X11_thing_14) hgz (s_goto C0 (tgt := 19) (d_X11_thing_15) (by decide) hgz (fun _ _ _ h => h)) (okn rfl)))))))) (okn rfl)),
  s_ic C0 (d_X11_thing_18) hgz (fun _ _ _ h => h) (okn rfl),
  s_ic C0 (d_X11_thing_19) hgz (s_ic C0 (d_X11_thing_20) hgz (s_callV C0 hE (c_X11_bad l) wg1359 wg1356 wg1358 ws82 wg12 ⟨by decide, by decide⟩ (by decide +kernel) (c0 := 11) rfl ⟨by decide, by decide⟩ ⟨by decide, by decide⟩ (d_X11_thing_21) (fun x hx => (hno x hx).elim) ⟨by decide, by decide⟩ ⟨by decide, by decide⟩ (s_zne C0 (d_X11_thing_24) (by decide) hgz hgz (fun _ _ _ h => h) (s_aln C0 (d_X11_thing_27) hgz (s_iln C0 (d_X11_thing_28) hgz (s_ic C0 (d_X11_thing_29) hgz (s_ic C0 (d_X11_thing_30) hgz (s_callS C0 hE (c_X11_in l) wg1355 wg1353 wg1354 wg12 ⟨by decide, by decide⟩ (by decide +kernel) ⟨by decide, by decide⟩ ⟨by decide, by decide⟩ (d_X11_thing_31) (fun x hx => (hno x hx).elim) ⟨by decide, by decide⟩ ⟨by decide, by decide⟩ (s_zne C0 (d_X11_thing_34) (by decide) hgz hgz (fun _ _ _ h => h) (s_ic C0 (d_X11_thing_37) hgz (s_goto C0 (tgt := 42) (d_X11_thing_38) (by decide) hgz (fun _ _ _ h => h)) (okn rfl)))) (okn rfl)) (okn rfl)))))) (okn rfl)) (okn rfl),
  s_ic C0 (d_X11_thing_41) hgz (fun _ _ _ h => h) (okn rfl),
  s_ic C0 (d_X11_thing_42) hgz (s_ic C0 (d_X11_thing_43) hgz (s_callV C0 hE (c_X11_bad l) wg1359 wg1356 wg1358 ws82 wg12 ⟨by decide, by decide⟩ (by decide +kernel) (c0 := 11) rfl ⟨by decide, by decide⟩ ⟨by decide, by decide⟩ (d_X11_thing_44) (fun x hx => (hno x hx).elim) ⟨by decide, by decide⟩ ⟨by decide, by decide⟩ (s_zeq C0 (d_X11_thing_47) (by decide) hgz hgz (fun _ _ _ h => h) (fun _ _ _ h => h))) (okn rfl)) (okn rfl),
  s_ic C0 (d_X11_thing_50) hgz (s_ri C0 hr (d_X11_thing_51) ⟨by decide, by decide⟩) (okn rfl),
  s_aln C0 (d_X11_thing_52) hgz (s_callV C0 hE (c_X11_laysDoors l) wg1462 wg1459 wg1461 ws100 wg12 ⟨by decide, by decide⟩ (by decide +kernel) (c0 := 11) rfl ⟨by decide, by decide⟩ ⟨by decide, by decide⟩ (d_X11_thing_53) (fun x hx => (hno x hx).elim) ⟨by decide, by decide⟩ ⟨by decide, by decide⟩ (s_iln C0 (d_X11_thing_56) hgz (s_ic C0 (d_X11_thing_57) hgz (s_cge C0 (d_X11_thing_58) (by decide) hgz hgz (fun _ _ _ h => h) (s_aln C0 (d_X11_thing_61) hgz (s_gr C0 (j := 15) (c0 := 11) rfl gX11 (by decide) rfl rfl wg1216 (d_X11_thing_62) hgz (s_iln C0 (d_X11_thing_65) hgz (s_aa C0 (by decide) (by decide) rfl rfl (d_X11_thing_66) hgz (s_iln C0 (d_X11_thing_67) hgz (s_ia C0 (d_X11_thing_68) hgz (s_goto C0 (tgt := 78) (d_X11_thing_69) (by decide) hgz (fun _ _ _ h => h))))))))) (okn rfl)))),
  s_aln C0 (d_X11_thing_72) hgz (s_gr C0 (j := 30) (c0 := 11) rfl gX11 (by decide) rfl rfl wg1231 (d_X11_thing_73) hgz (s_iln C0 (d_X11_thing_76) hgz (s_ia C0 (d_X11_thing_77) hgz (fun _ _ _ h => h)))),
  s_ri C0 hr (d_X11_thing_78) ⟨by decide, by decide⟩⟩
theorem c_X11_thing (l : Launch) : Ctr l yX11_thing cX11_thing 3 (some .int) 12 244 0 (fun sx => (nf G_X11_thing)) := ctr_of (by decide) gz gz ⟨rfl, rfl⟩ (fun p e s m args below meth c D ca ad sx sy A Q as M C0 hE hr hno hF => P_X11_thing (L_X11_thing C0 hE hr hno) hF)
theorem d_X11_thrown_0 : decode cX11_thrown 0 = .ok (.aload_n 0, 1) := by decide +kernel
theorem d_X11_thrown_1 : decode cX11_thrown 1 = .ok (.getfield 106, 3) := by decide +kernel
theorem d_X11_thrown_4 : decode cX11_thrown 4 = .ok (.ireturn, 1) := by decide +kernel
set_option maxRecDepth 100000 in
theorem L_X11_thrown {p : Program} {l : Launch} {e : Env} {s : State} {m : MethodId} {args : Array Value} {below : List Frame} {meth : Method} {c : Code} {D : va_G} {ca : Nat → ClassId} {ad sx sy : Nat → Nat} {A : Nat → Prop} {Q : QT} (C0 : CX p s m args meth c cX11_thrown 1 yX11_thrown.cls D ca ad A) (hE : EX sx sy A s s.heap) (hr : meth.sig.returnType = (some .int)) (hno : ∀ x ∈ c.exceptionTable.toList, False) : R_X11_thrown (JW p l e { frames := 10, cells := 0, slots := 6 * 0, locals := 200 } s m args below meth c 1 D ca ad A (vx_MQ below (Qn D ca ad A Q) (Qx D ca ad A Q) args s 0 (6 * 0) A) gz gz true) Q := s_aln C0 (d_X11_thrown_0) hgz (s_gi C0 (j := 0) (c0 := 11) rfl gX11 (by decide) rfl (by decide) wg1201 (d_X11_thrown_1) hgz (s_ri C0 hr (d_X11_thrown_4) ⟨by decide, by decide⟩))
theorem c_X11_thrown (l : Launch) : Ctr l yX11_thrown cX11_thrown 1 (some .int) 10 200 0 (fun sx => (nf G_X11_thrown)) := ctr_of (by decide) gz gz ⟨rfl, rfl⟩ (fun p e s m args below meth c D ca ad sx sy A Q as M C0 hE hr hno hF => P_X11_thrown (L_X11_thrown C0 hE hr hno) hF)
theorem d_X11_tired_0 : decode cX11_tired 0 = .ok (.aload_n 0, 1) := by decide +kernel
theorem d_X11_tired_1 : decode cX11_tired 1 = .ok (.iconst 0, 1) := by decide +kernel
theorem d_X11_tired_2 : decode cX11_tired 2 = .ok (.putfield 106, 3) := by decide +kernel
theorem d_X11_tired_5 : decode cX11_tired 5 = .ok (.aload_n 0, 1) := by decide +kernel
theorem d_X11_tired_6 : decode cX11_tired 6 = .ok (.aload_n 0, 1) := by decide +kernel
theorem d_X11_tired_7 : decode cX11_tired 7 = .ok (.iload_n 1, 1) := by decide +kernel
theorem d_X11_tired_8 : decode cX11_tired 8 = .ok (.invokevirtual 269, 3) := by decide +kernel
theorem d_X11_tired_11 : decode cX11_tired 11 = .ok (.ifCond .ne 7, 3) := by decide +kernel
theorem d_X11_tired_14 : decode cX11_tired 14 = .ok (.iconst 1, 1) := by decide +kernel
theorem d_X11_tired_15 : decode cX11_tired 15 = .ok (.goto 4, 3) := by decide +kernel
theorem d_X11_tired_18 : decode cX11_tired 18 = .ok (.iconst 0, 1) := by decide +kernel
theorem d_X11_tired_19 : decode cX11_tired 19 = .ok (.iconst 1, 1) := by decide +kernel
theorem d_X11_tired_20 : decode cX11_tired 20 = .ok (.iconst 0, 1) := by decide +kernel
theorem d_X11_tired_21 : decode cX11_tired 21 = .ok (.invokevirtual 188, 3) := by decide +kernel
theorem d_X11_tired_24 : decode cX11_tired 24 = .ok (.ifCond .eq 5, 3) := by decide +kernel
theorem d_X11_tired_27 : decode cX11_tired 27 = .ok (.iconst 0, 1) := by decide +kernel
theorem d_X11_tired_28 : decode cX11_tired 28 = .ok (.ireturn, 1) := by decide +kernel
theorem d_X11_tired_29 : decode cX11_tired 29 = .ok (.aload_n 0, 1) := by decide +kernel
theorem d_X11_tired_30 : decode cX11_tired 30 = .ok (.iload_n 1, 1) := by decide +kernel
theorem d_X11_tired_31 : decode cX11_tired 31 = .ok (.iconst 0, 1) := by decide +kernel
theorem d_X11_tired_32 : decode cX11_tired 32 = .ok (.invokevirtual 305, 3) := by decide +kernel
theorem d_X11_tired_35 : decode cX11_tired 35 = .ok (.istore_n 2, 1) := by decide +kernel
theorem d_X11_tired_36 : decode cX11_tired 36 = .ok (.iconst 1, 1) := by decide +kernel
theorem d_X11_tired_37 : decode cX11_tired 37 = .ok (.istore_n 3, 1) := by decide +kernel
theorem d_X11_tired_38 : decode cX11_tired 38 = .ok (.iload_n 3, 1) := by decide +kernel
theorem d_X11_tired_39 : decode cX11_tired 39 = .ok (.bipush 60, 2) := by decide +kernel
theorem d_X11_tired_41 : decode cX11_tired 41 = .ok (.if_icmp .gt 21, 3) := by decide +kernel
theorem d_X11_tired_44 : decode cX11_tired 44 = .ok (.aload_n 0, 1) := by decide +kernel
theorem d_X11_tired_45 : decode cX11_tired 45 = .ok (.iload_n 1, 1) := by decide +kernel
theorem d_X11_tired_46 : decode cX11_tired 46 = .ok (.iload_n 3, 1) := by decide +kernel
theorem d_X11_tired_47 : decode cX11_tired 47 = .ok (.invokevirtual 305, 3) := by decide +kernel
theorem d_X11_tired_50 : decode cX11_tired 50 = .ok (.iload_n 2, 1) := by decide +kernel
theorem d_X11_tired_51 : decode cX11_tired 51 = .ok (.if_icmp .eq 5, 3) := by decide +kernel
theorem d_X11_tired_54 : decode cX11_tired 54 = .ok (.iload_n 3, 1) := by decide +kernel
theorem d_X11_tired_55 : decode cX11_tired 55 = .ok (.ireturn, 1) := by decide +kernel
theorem d_X11_tired_56 : decode cX11_tired 56 = .ok (.iinc 3 1, 3) := by decide +kernel
theorem d_X11_tired_59 : decode cX11_tired 59 = .ok (.goto (-21), 3) := by decide +kernel
theorem d_X11_tired_62 : decode cX11_tired 62 = .ok (.iconst (-1), 1) := by decide +kernel
theorem d_X11_tired_63 : decode cX11_tired 63 = .ok (.ireturn, 1) := by decide +kernel
set_option maxRecDepth 100000 in
theorem L_X11_tired {p : Program} {l : Launch} {e : Env} {s : State} {m : MethodId} {args : Array Value} {below : List Frame} {meth : Method} {c : Code} {D : va_G} {ca : Nat → ClassId} {ad sx sy : Nat → Nat} {A : Nat → Prop} {Q : QT} (C0 : CX p s m args meth c cX11_tired 4 yX11_tired.cls D ca ad A) (hE : EX sx sy A s s.heap) (hr : meth.sig.returnType = (some .int)) (hno : ∀ x ∈ c.exceptionTable.toList, False) : R_X11_tired (JW p l e { frames := 15, cells := 0, slots := 6 * 0, locals := 314 } s m args below meth c 4 D ca ad A (vx_MQ below (Qn D ca ad A Q) (Qx D ca ad A Q) args s 0 (6 * 0) A) gz gz true) Q := ⟨s_aln C0 (d_X11_tired_0) hgz (s_ic C0 (d_X11_tired_1) hgz (s_pi C0 (j := 0) (c0 := 11) rfl gX11 tyX11_ok nmX11 (by decide) rfl (by decide) rfl rfl wg1201 (d_X11_tired_2) hgz (s_aln C0 (d_X11_tired_5) hgz (s_aln C0 (d_X11_tired_6) hgz (s_iln C0 (d_X11_tired_7) hgz (s_callV C0 hE (c_X11_isMotion l) wg1528 wg1525 wg1527 ws110 wg12 ⟨by decide, by decide⟩ (by decide +kernel) (c0 := 11) rfl ⟨by decide, by decide⟩ ⟨by decide, by decide⟩ (d_X11_tired_8) (fun x hx => (hno x hx).elim) ⟨by decide, by decide⟩ ⟨by decide, by decide⟩ (s_zne C0 (d_X11_tired_11) (by decide) hgz hgz (fun _ _ _ h => h) (s_ic C0 (d_X11_tired_14) hgz (s_goto C0 (tgt := 19) (d_X11_tired_15) (by decide) hgz (fun _ _ _ h => h)) (okn rfl)))))))) (okn rfl)),
  s_ic C0 (d_X11_tired_18) hgz (fun _ _ _ h => h) (okn rfl),
  s_ic C0 (d_X11_tired_19) hgz (s_ic C0 (d_X11_tired_20) hgz (s_callV C0 hE (c_X11_bad l) wg1359 wg1356 wg1358 ws82 wg12 ⟨by decide, by decide⟩ (by decide +kernel) (c0 := 11) rfl ⟨by decide, by decide⟩ ⟨by decide, by decide⟩ (d_X11_tired_21) (fun x hx => (hno x hx).elim) ⟨by decide, by decide⟩ ⟨by decide, by decide⟩ (s_zeq C0 (d_X11_tired_24) (by decide) hgz hgz (fun _ _ _ h => h) (s_ic C0 (d_X11_tired_27) hgz (s_ri C0 hr (d_X11_tired_28) ⟨by decide, by decide⟩) (okn rfl)))) (okn rfl)) (okn rfl),
  s_aln C0 (d_X11_tired_29) hgz (s_iln C0 (d_X11_tired_30) hgz (s_ic C0 (d_X11_tired_31) hgz (s_callV C0 hE (c_X11_passesLater l) wg1625 wg1622 wg1624 ws117 wg12 ⟨by decide, by decide⟩ (by decide +kernel) (c0 := 11) rfl ⟨by decide, by decide⟩ ⟨by decide, by decide⟩ (d_X11_tired_32) (fun x hx => (hno x hx).elim) ⟨by decide, by decide⟩ ⟨by decide, by decide⟩ (s_isn C0 (d_X11_tired_35) hgz (s_ic C0 (d_X11_tired_36) hgz (s_isn C0 (d_X11_tired_37) hgz (fun _ _ _ h => h)) (okn rfl)))) (okn rfl))),
  s_iln C0 (d_X11_tired_38) hgz (s_bi C0 (d_X11_tired_39) hgz (s_cgt C0 (d_X11_tired_41) (by decide) hgz hgz (fun _ _ _ h => h) (s_aln C0 (d_X11_tired_44) hgz (s_iln C0 (d_X11_tired_45) hgz (s_iln C0 (d_X11_tired_46) hgz (s_callV C0 hE (c_X11_passesLater l) wg1625 wg1622 wg1624 ws117 wg12 ⟨by decide, by decide⟩ (by decide +kernel) (c0 := 11) rfl ⟨by decide, by decide⟩ ⟨by decide, by decide⟩ (d_X11_tired_47) (fun x hx => (hno x hx).elim) ⟨by decide, by decide⟩ ⟨by decide, by decide⟩ (s_iln C0 (d_X11_tired_50) hgz (s_ceq C0 (d_X11_tired_51) (by decide) hgz hgz (fun _ _ _ h => h) (s_iln C0 (d_X11_tired_54) hgz (s_ri C0 hr (d_X11_tired_55) ⟨by decide, by decide⟩))))))))) (okn rfl) rfl),
  s_inc C0 (d_X11_tired_56) hgz (s_goto C0 (tgt := 38) (d_X11_tired_59) (by decide) hgz (fun _ _ _ h => h)),
  s_ic C0 (d_X11_tired_62) hgz (s_ri C0 hr (d_X11_tired_63) ⟨by decide, by decide⟩) (okn rfl)⟩
theorem c_X11_tired (l : Launch) : Ctr l yX11_tired cX11_tired 4 (some .int) 15 314 0 (fun sx => (nf G_X11_tired)) := ctr_of (by decide) gz gz ⟨rfl, rfl⟩ (fun p e s m args below meth c D ca ad sx sy A Q as M C0 hE hr hno hF => P_X11_tired (L_X11_tired C0 hE hr hno) hF)
theorem d_X11_together_0 : decode cX11_together 0 = .ok (.aload_n 0, 1) := by decide +kernel
theorem d_X11_together_1 : decode cX11_together 1 = .ok (.iconst 0, 1) := by decide +kernel
theorem d_X11_together_2 : decode cX11_together 2 = .ok (.putfield 106, 3) := by decide +kernel
theorem d_X11_together_5 : decode cX11_together 5 = .ok (.iconst 0, 1) := by decide +kernel
theorem d_X11_together_6 : decode cX11_together 6 = .ok (.istore_n 2, 1) := by decide +kernel
theorem d_X11_together_7 : decode cX11_together 7 = .ok (.iconst 0, 1) := by decide +kernel
theorem d_X11_together_8 : decode cX11_together 8 = .ok (.istore_n 3, 1) := by decide +kernel
theorem d_X11_together_9 : decode cX11_together 9 = .ok (.iload_n 3, 1) := by decide +kernel
theorem d_X11_together_10 : decode cX11_together 10 = .ok (.bipush 16, 2) := by decide +kernel
theorem d_X11_together_12 : decode cX11_together 12 = .ok (.if_icmp .ge 85, 3) := by decide +kernel
theorem d_X11_together_15 : decode cX11_together 15 = .ok (.aload_n 0, 1) := by decide +kernel
theorem d_X11_together_16 : decode cX11_together 16 = .ok (.iload_n 3, 1) := by decide +kernel
theorem d_X11_together_17 : decode cX11_together 17 = .ok (.invokevirtual 296, 3) := by decide +kernel
theorem d_X11_together_20 : decode cX11_together 20 = .ok (.istore 4, 2) := by decide +kernel
theorem d_X11_together_22 : decode cX11_together 22 = .ok (.iconst 0, 1) := by decide +kernel
theorem d_X11_together_23 : decode cX11_together 23 = .ok (.istore 5, 2) := by decide +kernel
theorem d_X11_together_25 : decode cX11_together 25 = .ok (.iload 5, 2) := by decide +kernel
theorem d_X11_together_27 : decode cX11_together 27 = .ok (.iconst 4, 1) := by decide +kernel
theorem d_X11_together_28 : decode cX11_together 28 = .ok (.if_icmp .ge 45, 3) := by decide +kernel
theorem d_X11_together_31 : decode cX11_together 31 = .ok (.iload 4, 2) := by decide +kernel
theorem d_X11_together_33 : decode cX11_together 33 = .ok (.ifCond .eq 31, 3) := by decide +kernel
theorem d_X11_together_36 : decode cX11_together 36 = .ok (.iload_n 3, 1) := by decide +kernel
theorem d_X11_together_37 : decode cX11_together 37 = .ok (.iload 5, 2) := by decide +kernel
theorem d_X11_together_39 : decode cX11_together 39 = .ok (.ishr, 1) := by decide +kernel
theorem d_X11_together_40 : decode cX11_together 40 = .ok (.iconst 1, 1) := by decide +kernel
theorem d_X11_together_41 : decode cX11_together 41 = .ok (.iand, 1) := by decide +kernel
theorem d_X11_together_42 : decode cX11_together 42 = .ok (.ifCond .eq 18, 3) := by decide +kernel
theorem d_X11_together_45 : decode cX11_together 45 = .ok (.aload_n 0, 1) := by decide +kernel
theorem d_X11_together_46 : decode cX11_together 46 = .ok (.iload_n 3, 1) := by decide +kernel
theorem d_X11_together_47 : decode cX11_together 47 = .ok (.iconst 1, 1) := by decide +kernel
theorem d_X11_together_48 : decode cX11_together 48 = .ok (.iload 5, 2) := by decide +kernel
theorem d_X11_together_50 : decode cX11_together 50 = .ok (.ishl, 1) := by decide +kernel
theorem d_X11_together_51 : decode cX11_together 51 = .ok (.iconst (-1), 1) := by decide +kernel
theorem d_X11_together_52 : decode cX11_together 52 = .ok (.ixor, 1) := by decide +kernel
theorem d_X11_together_53 : decode cX11_together 53 = .ok (.iand, 1) := by decide +kernel
theorem d_X11_together_54 : decode cX11_together 54 = .ok (.invokevirtual 296, 3) := by decide +kernel
theorem d_X11_together_57 : decode cX11_together 57 = .ok (.ifCond .ne 7, 3) := by decide +kernel
theorem d_X11_together_60 : decode cX11_together 60 = .ok (.iconst 1, 1) := by decide +kernel
theorem d_X11_together_61 : decode cX11_together 61 = .ok (.goto 4, 3) := by decide +kernel
theorem d_X11_together_64 : decode cX11_together 64 = .ok (.iconst 0, 1) := by decide +kernel
theorem d_X11_together_65 : decode cX11_together 65 = .ok (.istore 4, 2) := by decide +kernel
theorem d_X11_together_67 : decode cX11_together 67 = .ok (.iinc 5 1, 3) := by decide +kernel
theorem d_X11_together_70 : decode cX11_together 70 = .ok (.goto (-45), 3) := by decide +kernel
theorem d_X11_together_73 : decode cX11_together 73 = .ok (.iload 4, 2) := by decide +kernel
theorem d_X11_together_75 : decode cX11_together 75 = .ok (.ifCond .ne 6, 3) := by decide +kernel
theorem d_X11_together_78 : decode cX11_together 78 = .ok (.goto 13, 3) := by decide +kernel
theorem d_X11_together_81 : decode cX11_together 81 = .ok (.iload_n 2, 1) := by decide +kernel
theorem d_X11_together_82 : decode cX11_together 82 = .ok (.iload_n 1, 1) := by decide +kernel
theorem d_X11_together_83 : decode cX11_together 83 = .ok (.if_icmp .ne 5, 3) := by decide +kernel
theorem d_X11_together_86 : decode cX11_together 86 = .ok (.iload_n 3, 1) := by decide +kernel
theorem d_X11_together_87 : decode cX11_together 87 = .ok (.ireturn, 1) := by decide +kernel
theorem d_X11_together_88 : decode cX11_together 88 = .ok (.iinc 2 1, 3) := by decide +kernel
theorem d_X11_together_91 : decode cX11_together 91 = .ok (.iinc 3 1, 3) := by decide +kernel
theorem d_X11_together_94 : decode cX11_together 94 = .ok (.goto (-85), 3) := by decide +kernel
theorem d_X11_together_97 : decode cX11_together 97 = .ok (.iconst (-1), 1) := by decide +kernel
theorem d_X11_together_98 : decode cX11_together 98 = .ok (.ireturn, 1) := by decide +kernel
set_option maxRecDepth 100000 in
theorem L_X11_together {p : Program} {l : Launch} {e : Env} {s : State} {m : MethodId} {args : Array Value} {below : List Frame} {meth : Method} {c : Code} {D : va_G} {ca : Nat → ClassId} {ad sx sy : Nat → Nat} {A : Nat → Prop} {Q : QT} (C0 : CX p s m args meth c cX11_together 6 yX11_together.cls D ca ad A) (hE : EX sx sy A s s.heap) (hr : meth.sig.returnType = (some .int)) (hno : ∀ x ∈ c.exceptionTable.toList, False) : R_X11_together (JW p l e { frames := 12, cells := 0, slots := 6 * 0, locals := 245 } s m args below meth c 6 D ca ad A (vx_MQ below (Qn D ca ad A Q) (Qx D ca ad A Q) args s 0 (6 * 0) A) gz gz true) Q := ⟨s_aln C0 (d_X11_together_0) hgz (s_ic C0 (d_X11_together_1) hgz (s_pi C0 (j := 0) (c0 := 11) rfl gX11 tyX11_ok nmX11 (by decide) rfl (by decide) rfl rfl wg1201 (d_X11_together_2) hgz (s_ic C0 (d_X11_together_5) hgz (s_isn C0 (d_X11_together_6) hgz (s_ic C0 (d_X11_together_7) hgz (s_isn C0 (d_X11_together_8) hgz (fun _ _ _ h => h)) (okn rfl))) (okn rfl))) (okn rfl)),
  s_iln C0 (d_X11_together_9) hgz (s_bi C0 (d_X11_together_10) hgz (s_cge C0 (d_X11_together_12) (by decide) hgz hgz (fun _ _ _ h => h) (s_aln C0 (d_X11_together_15) hgz (s_iln C0 (d_X11_together_16) hgz (s_callV C0 hE (c_X11_winsBy l) wg1586 wg1583 wg1585 ws115 wg12 ⟨by decide, by decide⟩ (by decide +kernel) (c0 := 11) rfl ⟨by decide, by decide⟩ ⟨by decide, by decide⟩ (d_X11_together_17) (fun x hx => (hno x hx).elim) ⟨by decide, by decide⟩ ⟨by decide, by decide⟩ (s_is C0 (d_X11_together_20) hgz (s_ic C0 (d_X11_together_22) hgz (s_is C0 (d_X11_together_23) hgz (fun _ _ _ h => h)) (okn rfl))))))) (okn rfl) rfl),
  s_il C0 (d_X11_together_25) hgz (s_ic C0 (d_X11_together_27) hgz (s_cge C0 (d_X11_together_28) (by decide) hgz hgz (fun _ _ _ h => h) (s_il C0 (d_X11_together_31) hgz (s_zeq C0 (d_X11_together_33) (by decide) hgz hgz (fun _ _ _ h => h) (s_iln C0 (d_X11_together_36) hgz (s_il C0 (d_X11_together_37) hgz (s_shr C0 (d_X11_together_39) hgz (s_ic C0 (d_X11_together_40) hgz (s_and C0 (d_X11_together_41) hgz (s_zeq C0 (d_X11_together_42) (by decide) hgz hgz (fun _ _ _ h => h) (s_aln C0 (d_X11_together_45) hgz (s_iln C0 (d_X11_together_46) hgz (s_ic C0 (d_X11_together_47) hgz (s_il C0 (d_X11_together_48) hgz (s_shl C0 (d_X11_together_50) hgz (s_ic C0 (d_X11_together_51) hgz (s_xor C0 (d_X11_together_52) hgz (s_and C0 (d_X11_together_53) hgz (s_callV C0 hE (c_X11_winsBy l) wg1586 wg1583 wg1585 ws115 wg12 ⟨by decide, by decide⟩ (by decide +kernel) (c0 := 11) rfl ⟨by decide, by decide⟩ ⟨by decide, by decide⟩ (d_X11_together_54) (fun x hx => (hno x hx).elim) ⟨by decide, by decide⟩ ⟨by decide, by decide⟩ (s_zne C0 (d_X11_together_57) (by decide) hgz hgz (fun _ _ _ h => h) (fun _ _ _ h => h))))) (okn rfl)))) (okn rfl)))))) (okn rfl)))))))) (okn rfl)),
  s_ic C0 (d_X11_together_60) hgz (s_goto C0 (tgt := 65) (d_X11_together_61) (by decide) hgz (fun _ _ _ h => h)) (okn rfl),
  s_ic C0 (d_X11_together_64) hgz (fun _ _ _ h => h) (okn rfl),
  s_is C0 (d_X11_together_65) hgz (s_inc C0 (d_X11_together_67) hgz (s_goto C0 (tgt := 25) (d_X11_together_70) (by decide) hgz (fun _ _ _ h => h))),
  s_il C0 (d_X11_together_73) hgz (s_zne C0 (d_X11_together_75) (by decide) hgz hgz (fun _ _ _ h => h) (s_goto C0 (tgt := 91) (d_X11_together_78) (by decide) hgz (fun _ _ _ h => h))),
  s_iln C0 (d_X11_together_81) hgz (s_iln C0 (d_X11_together_82) hgz (s_cne C0 (d_X11_together_83) (by decide) hgz hgz (fun _ _ _ h => h) (s_iln C0 (d_X11_together_86) hgz (s_ri C0 hr (d_X11_together_87) ⟨by decide, by decide⟩)))),
  s_inc C0 (d_X11_together_88) hgz (fun _ _ _ h => h),
  s_inc C0 (d_X11_together_91) hgz (s_goto C0 (tgt := 9) (d_X11_together_94) (by decide) hgz (fun _ _ _ h => h)),
  s_ic C0 (d_X11_together_97) hgz (s_ri C0 hr (d_X11_together_98) ⟨by decide, by decide⟩) (okn rfl)⟩
theorem c_X11_together (l : Launch) : Ctr l yX11_together cX11_together 6 (some .int) 12 245 0 (fun sx => (nf G_X11_together)) := ctr_of (by decide) gz gz ⟨rfl, rfl⟩ (fun p e s m args below meth c D ca ad sx sy A Q as M C0 hE hr hno hF => P_X11_together (L_X11_together C0 hE hr hno) hF)
theorem d_X11_told_0 : decode cX11_told 0 = .ok (.aload_n 0, 1) := by decide +kernel
theorem d_X11_told_1 : decode cX11_told 1 = .ok (.iconst 0, 1) := by decide +kernel
theorem d_X11_told_2 : decode cX11_told 2 = .ok (.putfield 106, 3) := by decide +kernel
theorem d_X11_told_5 : decode cX11_told 5 = .ok (.aload_n 0, 1) := by decide +kernel
theorem d_X11_told_6 : decode cX11_told 6 = .ok (.iload_n 1, 1) := by decide +kernel
theorem d_X11_told_7 : decode cX11_told 7 = .ok (.iconst 0, 1) := by decide +kernel
theorem d_X11_told_8 : decode cX11_told 8 = .ok (.iconst 5, 1) := by decide +kernel
theorem d_X11_told_9 : decode cX11_told 9 = .ok (.invokestatic 140, 3) := by decide +kernel
theorem d_X11_told_12 : decode cX11_told 12 = .ok (.ifCond .ne 7, 3) := by decide +kernel
theorem d_X11_told_15 : decode cX11_told 15 = .ok (.iconst 1, 1) := by decide +kernel
theorem d_X11_told_16 : decode cX11_told 16 = .ok (.goto 4, 3) := by decide +kernel
theorem d_X11_told_19 : decode cX11_told 19 = .ok (.iconst 0, 1) := by decide +kernel
theorem d_X11_told_20 : decode cX11_told 20 = .ok (.iconst 1, 1) := by decide +kernel
theorem d_X11_told_21 : decode cX11_told 21 = .ok (.iconst 1, 1) := by decide +kernel
theorem d_X11_told_22 : decode cX11_told 22 = .ok (.invokevirtual 188, 3) := by decide +kernel
theorem d_X11_told_25 : decode cX11_told 25 = .ok (.ifCond .eq 5, 3) := by decide +kernel
theorem d_X11_told_28 : decode cX11_told 28 = .ok (.iconst 0, 1) := by decide +kernel
theorem d_X11_told_29 : decode cX11_told 29 = .ok (.ireturn, 1) := by decide +kernel
theorem d_X11_told_30 : decode cX11_told 30 = .ok (.iload_n 1, 1) := by decide +kernel
theorem d_X11_told_31 : decode cX11_told 31 = .ok (.iconst 4, 1) := by decide +kernel
theorem d_X11_told_32 : decode cX11_told 32 = .ok (.if_icmp .ge 12, 3) := by decide +kernel
theorem d_X11_told_35 : decode cX11_told 35 = .ok (.aload_n 0, 1) := by decide +kernel
theorem d_X11_told_36 : decode cX11_told 36 = .ok (.getfield 23, 3) := by decide +kernel
theorem d_X11_told_39 : decode cX11_told 39 = .ok (.iload_n 1, 1) := by decide +kernel
theorem d_X11_told_40 : decode cX11_told 40 = .ok (.iaload, 1) := by decide +kernel
theorem d_X11_told_41 : decode cX11_told 41 = .ok (.goto 21, 3) := by decide +kernel
theorem d_X11_told_44 : decode cX11_told 44 = .ok (.iload_n 1, 1) := by decide +kernel
theorem d_X11_told_45 : decode cX11_told 45 = .ok (.iconst 4, 1) := by decide +kernel
theorem d_X11_told_46 : decode cX11_told 46 = .ok (.if_icmp .ne 10, 3) := by decide +kernel
theorem d_X11_told_49 : decode cX11_told 49 = .ok (.aload_n 0, 1) := by decide +kernel
theorem d_X11_told_50 : decode cX11_told 50 = .ok (.getfield 199, 3) := by decide +kernel
theorem d_X11_told_53 : decode cX11_told 53 = .ok (.goto 9, 3) := by decide +kernel
theorem d_X11_told_56 : decode cX11_told 56 = .ok (.aload_n 0, 1) := by decide +kernel
theorem d_X11_told_57 : decode cX11_told 57 = .ok (.getfield 23, 3) := by decide +kernel
theorem d_X11_told_60 : decode cX11_told 60 = .ok (.iconst 4, 1) := by decide +kernel
theorem d_X11_told_61 : decode cX11_told 61 = .ok (.iaload, 1) := by decide +kernel
theorem d_X11_told_62 : decode cX11_told 62 = .ok (.ireturn, 1) := by decide +kernel
set_option maxRecDepth 100000 in
theorem L_X11_told {p : Program} {l : Launch} {e : Env} {s : State} {m : MethodId} {args : Array Value} {below : List Frame} {meth : Method} {c : Code} {D : va_G} {ca : Nat → ClassId} {ad sx sy : Nat → Nat} {A : Nat → Prop} {Q : QT} (C0 : CX p s m args meth c cX11_told 2 yX11_told.cls D ca ad A) (hE : EX sx sy A s s.heap) (hr : meth.sig.returnType = (some .int)) (hno : ∀ x ∈ c.exceptionTable.toList, False) : R_X11_told (JW p l e { frames := 11, cells := 0, slots := 6 * 0, locals := 223 } s m args below meth c 2 D ca ad A (vx_MQ below (Qn D ca ad A Q) (Qx D ca ad A Q) args s 0 (6 * 0) A) gz gz true) Q := ⟨s_aln C0 (d_X11_told_0) hgz (s_ic C0 (d_X11_told_1) hgz (s_pi C0 (j := 0) (c0 := 11) rfl gX11 tyX11_ok nmX11 (by decide) rfl (by decide) rfl rfl wg1201 (d_X11_told_2) hgz (s_aln C0 (d_X11_told_5) hgz (s_iln C0 (d_X11_told_6) hgz (s_ic C0 (d_X11_told_7) hgz (s_ic C0 (d_X11_told_8) hgz (s_callS C0 hE (c_X11_in l) wg1355 wg1353 wg1354 wg12 ⟨by decide, by decide⟩ (by decide +kernel) ⟨by decide, by decide⟩ ⟨by decide, by decide⟩ (d_X11_told_9) (fun x hx => (hno x hx).elim) ⟨by decide, by decide⟩ ⟨by decide, by decide⟩ (s_zne C0 (d_X11_told_12) (by decide) hgz hgz (fun _ _ _ h => h) (s_ic C0 (d_X11_told_15) hgz (s_goto C0 (tgt := 20) (d_X11_told_16) (by decide) hgz (fun _ _ _ h => h)) (okn rfl)))) (okn rfl)) (okn rfl))))) (okn rfl)),
  s_ic C0 (d_X11_told_19) hgz (fun _ _ _ h => h) (okn rfl),
  s_ic C0 (d_X11_told_20) hgz (s_ic C0 (d_X11_told_21) hgz (s_callV C0 hE (c_X11_bad l) wg1359 wg1356 wg1358 ws82 wg12 ⟨by decide, by decide⟩ (by decide +kernel) (c0 := 11) rfl ⟨by decide, by decide⟩ ⟨by decide, by decide⟩ (d_X11_told_22) (fun x hx => (hno x hx).elim) ⟨by decide, by decide⟩ ⟨by decide, by decide⟩ (s_zeq C0 (d_X11_told_25) (by decide) hgz hgz (fun _ _ _ h => h) (s_ic C0 (d_X11_told_28) hgz (s_ri C0 hr (d_X11_told_29) ⟨by decide, by decide⟩) (okn rfl)))) (okn rfl)) (okn rfl),
  s_iln C0 (d_X11_told_30) hgz (s_ic C0 (d_X11_told_31) hgz (s_cge C0 (d_X11_told_32) (by decide) hgz hgz (fun _ _ _ h => h) (s_aln C0 (d_X11_told_35) hgz (s_gr C0 (j := 11) (c0 := 11) rfl gX11 (by decide) rfl rfl wg1212 (d_X11_told_36) hgz (s_iln C0 (d_X11_told_39) hgz (s_ia C0 (d_X11_told_40) hgz (s_goto C0 (tgt := 62) (d_X11_told_41) (by decide) hgz (fun _ _ _ h => h))))))) (okn rfl)),
  s_iln C0 (d_X11_told_44) hgz (s_ic C0 (d_X11_told_45) hgz (s_cne C0 (d_X11_told_46) (by decide) hgz hgz (fun _ _ _ h => h) (s_aln C0 (d_X11_told_49) hgz (s_gi C0 (j := 22) (c0 := 11) rfl gX11 (by decide) rfl (by decide) wg1223 (d_X11_told_50) hgz (s_goto C0 (tgt := 62) (d_X11_told_53) (by decide) hgz (fun _ _ _ h => h))))) (okn rfl)),
  s_aln C0 (d_X11_told_56) hgz (s_gr C0 (j := 11) (c0 := 11) rfl gX11 (by decide) rfl rfl wg1212 (d_X11_told_57) hgz (s_ic C0 (d_X11_told_60) hgz (s_ia C0 (d_X11_told_61) hgz (fun _ _ _ h => h)) (okn rfl))),
  s_ri C0 hr (d_X11_told_62) ⟨by decide, by decide⟩⟩
theorem c_X11_told (l : Launch) : Ctr l yX11_told cX11_told 2 (some .int) 11 223 0 (fun sx => (nf G_X11_told)) := ctr_of (by decide) gz gz ⟨rfl, rfl⟩ (fun p e s m args below meth c D ca ad sx sy A Q as M C0 hE hr hno hF => P_X11_told (L_X11_told C0 hE hr hno) hF)
theorem d_X11_unlike_0 : decode cX11_unlike 0 = .ok (.aload_n 0, 1) := by decide +kernel
theorem d_X11_unlike_1 : decode cX11_unlike 1 = .ok (.iconst 0, 1) := by decide +kernel
theorem d_X11_unlike_2 : decode cX11_unlike 2 = .ok (.putfield 106, 3) := by decide +kernel
theorem d_X11_unlike_5 : decode cX11_unlike 5 = .ok (.aload_n 0, 1) := by decide +kernel
theorem d_X11_unlike_6 : decode cX11_unlike 6 = .ok (.iload_n 1, 1) := by decide +kernel
theorem d_X11_unlike_7 : decode cX11_unlike 7 = .ok (.invokestatic 272, 3) := by decide +kernel
theorem d_X11_unlike_10 : decode cX11_unlike 10 = .ok (.ifCond .eq 10, 3) := by decide +kernel
theorem d_X11_unlike_13 : decode cX11_unlike 13 = .ok (.iload_n 2, 1) := by decide +kernel
theorem d_X11_unlike_14 : decode cX11_unlike 14 = .ok (.invokestatic 272, 3) := by decide +kernel
theorem d_X11_unlike_17 : decode cX11_unlike 17 = .ok (.ifCond .ne 7, 3) := by decide +kernel
theorem d_X11_unlike_20 : decode cX11_unlike 20 = .ok (.iconst 1, 1) := by decide +kernel
theorem d_X11_unlike_21 : decode cX11_unlike 21 = .ok (.goto 4, 3) := by decide +kernel
theorem d_X11_unlike_24 : decode cX11_unlike 24 = .ok (.iconst 0, 1) := by decide +kernel
theorem d_X11_unlike_25 : decode cX11_unlike 25 = .ok (.iconst 1, 1) := by decide +kernel
theorem d_X11_unlike_26 : decode cX11_unlike 26 = .ok (.iconst 1, 1) := by decide +kernel
theorem d_X11_unlike_27 : decode cX11_unlike 27 = .ok (.invokevirtual 188, 3) := by decide +kernel
theorem d_X11_unlike_30 : decode cX11_unlike 30 = .ok (.ifCond .eq 5, 3) := by decide +kernel
theorem d_X11_unlike_33 : decode cX11_unlike 33 = .ok (.iconst 0, 1) := by decide +kernel
theorem d_X11_unlike_34 : decode cX11_unlike 34 = .ok (.ireturn, 1) := by decide +kernel
theorem d_X11_unlike_35 : decode cX11_unlike 35 = .ok (.aload_n 0, 1) := by decide +kernel
theorem d_X11_unlike_36 : decode cX11_unlike 36 = .ok (.invokevirtual 266, 3) := by decide +kernel
theorem d_X11_unlike_39 : decode cX11_unlike 39 = .ok (.aload_n 0, 1) := by decide +kernel
theorem d_X11_unlike_40 : decode cX11_unlike 40 = .ok (.iload_n 1, 1) := by decide +kernel
theorem d_X11_unlike_41 : decode cX11_unlike 41 = .ok (.invokevirtual 275, 3) := by decide +kernel
theorem d_X11_unlike_44 : decode cX11_unlike 44 = .ok (.aload_n 0, 1) := by decide +kernel
theorem d_X11_unlike_45 : decode cX11_unlike 45 = .ok (.iload_n 2, 1) := by decide +kernel
theorem d_X11_unlike_46 : decode cX11_unlike 46 = .ok (.invokevirtual 275, 3) := by decide +kernel
theorem d_X11_unlike_49 : decode cX11_unlike 49 = .ok (.ixor, 1) := by decide +kernel
theorem d_X11_unlike_50 : decode cX11_unlike 50 = .ok (.invokestatic 278, 3) := by decide +kernel
theorem d_X11_unlike_53 : decode cX11_unlike 53 = .ok (.ireturn, 1) := by decide +kernel
set_option maxRecDepth 100000 in
theorem L_X11_unlike {p : Program} {l : Launch} {e : Env} {s : State} {m : MethodId} {args : Array Value} {below : List Frame} {meth : Method} {c : Code} {D : va_G} {ca : Nat → ClassId} {ad sx sy : Nat → Nat} {A : Nat → Prop} {Q : QT} (C0 : CX p s m args meth c cX11_unlike 3 yX11_unlike.cls D ca ad A) (hE : EX sx sy A s s.heap) (hr : meth.sig.returnType = (some .int)) (hno : ∀ x ∈ c.exceptionTable.toList, False) : R_X11_unlike (JW p l e { frames := 15, cells := 0, slots := 6 * 0, locals := 312 } s m args below meth c 3 D ca ad A (vx_MQ below (Qn D ca ad A Q) (Qx D ca ad A Q) args s 0 (6 * 0) A) gz gz true) Q := ⟨s_aln C0 (d_X11_unlike_0) hgz (s_ic C0 (d_X11_unlike_1) hgz (s_pi C0 (j := 0) (c0 := 11) rfl gX11 tyX11_ok nmX11 (by decide) rfl (by decide) rfl rfl wg1201 (d_X11_unlike_2) hgz (s_aln C0 (d_X11_unlike_5) hgz (s_iln C0 (d_X11_unlike_6) hgz (s_callS C0 hE (c_X11_isLaw l) wg1531 wg1529 wg1530 wg12 ⟨by decide, by decide⟩ (by decide +kernel) ⟨by decide, by decide⟩ ⟨by decide, by decide⟩ (d_X11_unlike_7) (fun x hx => (hno x hx).elim) ⟨by decide, by decide⟩ ⟨by decide, by decide⟩ (s_zeq C0 (d_X11_unlike_10) (by decide) hgz hgz (fun _ _ _ h => h) (s_iln C0 (d_X11_unlike_13) hgz (s_callS C0 hE (c_X11_isLaw l) wg1531 wg1529 wg1530 wg12 ⟨by decide, by decide⟩ (by decide +kernel) ⟨by decide, by decide⟩ ⟨by decide, by decide⟩ (d_X11_unlike_14) (fun x hx => (hno x hx).elim) ⟨by decide, by decide⟩ ⟨by decide, by decide⟩ (s_zne C0 (d_X11_unlike_17) (by decide) hgz hgz (fun _ _ _ h => h) (fun _ _ _ h => h))))))))) (okn rfl)),
  s_ic C0 (d_X11_unlike_20) hgz (s_goto C0 (tgt := 25) (d_X11_unlike_21) (by decide) hgz (fun _ _ _ h => h)) (okn rfl),
  s_ic C0 (d_X11_unlike_24) hgz (fun _ _ _ h => h) (okn rfl),
  s_ic C0 (d_X11_unlike_25) hgz (s_ic C0 (d_X11_unlike_26) hgz (s_callV C0 hE (c_X11_bad l) wg1359 wg1356 wg1358 ws82 wg12 ⟨by decide, by decide⟩ (by decide +kernel) (c0 := 11) rfl ⟨by decide, by decide⟩ ⟨by decide, by decide⟩ (d_X11_unlike_27) (fun x hx => (hno x hx).elim) ⟨by decide, by decide⟩ ⟨by decide, by decide⟩ (s_zeq C0 (d_X11_unlike_30) (by decide) hgz hgz (fun _ _ _ h => h) (s_ic C0 (d_X11_unlike_33) hgz (s_ri C0 hr (d_X11_unlike_34) ⟨by decide, by decide⟩) (okn rfl)))) (okn rfl)) (okn rfl),
  s_aln C0 (d_X11_unlike_35) hgz (s_callV C0 hE (c_X11_goesAll l) wg1520 wg1517 wg1519 ws109 wg12 ⟨by decide, by decide⟩ (by decide +kernel) (c0 := 11) rfl ⟨by decide, by decide⟩ ⟨by decide, by decide⟩ (d_X11_unlike_36) (fun x hx => (hno x hx).elim) ⟨by decide, by decide⟩ ⟨by decide, by decide⟩ (s_aln C0 (d_X11_unlike_39) hgz (s_iln C0 (d_X11_unlike_40) hgz (s_callV C0 hE (c_X11_passesBy l) wg1535 wg1532 wg1534 ws111 wg12 ⟨by decide, by decide⟩ (by decide +kernel) (c0 := 11) rfl ⟨by decide, by decide⟩ ⟨by decide, by decide⟩ (d_X11_unlike_41) (fun x hx => (hno x hx).elim) ⟨by decide, by decide⟩ ⟨by decide, by decide⟩ (s_aln C0 (d_X11_unlike_44) hgz (s_iln C0 (d_X11_unlike_45) hgz (s_callV C0 hE (c_X11_passesBy l) wg1535 wg1532 wg1534 ws111 wg12 ⟨by decide, by decide⟩ (by decide +kernel) (c0 := 11) rfl ⟨by decide, by decide⟩ ⟨by decide, by decide⟩ (d_X11_unlike_46) (fun x hx => (hno x hx).elim) ⟨by decide, by decide⟩ ⟨by decide, by decide⟩ (s_xor C0 (d_X11_unlike_49) hgz (s_callS C0 hE (c_X11_ones l) wg1546 wg1544 wg1545 wg12 ⟨by decide, by decide⟩ (by decide +kernel) ⟨by decide, by decide⟩ ⟨by decide, by decide⟩ (d_X11_unlike_50) (fun x hx => (hno x hx).elim) ⟨by decide, by decide⟩ ⟨by decide, by decide⟩ (s_ri C0 hr (d_X11_unlike_53) ⟨by decide, by decide⟩))))))))))⟩
theorem c_X11_unlike (l : Launch) : Ctr l yX11_unlike cX11_unlike 3 (some .int) 15 312 0 (fun sx => (nf G_X11_unlike)) := ctr_of (by decide) gz gz ⟨rfl, rfl⟩ (fun p e s m args below meth c D ca ad sx sy A Q as M C0 hE hr hno hF => P_X11_unlike (L_X11_unlike C0 hE hr hno) hF)
theorem d_X11_vote_0 : decode cX11_vote 0 = .ok (.aload_n 0, 1) := by decide +kernel
theorem d_X11_vote_1 : decode cX11_vote 1 = .ok (.iconst 0, 1) := by decide +kernel
theorem d_X11_vote_2 : decode cX11_vote 2 = .ok (.putfield 106, 3) := by decide +kernel
theorem d_X11_vote_5 : decode cX11_vote 5 = .ok (.iconst 1, 1) := by decide +kernel
theorem d_X11_vote_6 : decode cX11_vote 6 = .ok (.aload_n 0, 1) := by decide +kernel
theorem d_X11_vote_7 : decode cX11_vote 7 = .ok (.getfield 23, 3) := by decide +kernel
theorem d_X11_vote_10 : decode cX11_vote 10 = .ok (.iconst 0, 1) := by decide +kernel
theorem d_X11_vote_11 : decode cX11_vote 11 = .ok (.iaload, 1) := by decide +kernel
theorem d_X11_vote_12 : decode cX11_vote 12 = .ok (.ishl, 1) := by decide +kernel
theorem d_X11_vote_13 : decode cX11_vote 13 = .ok (.iconst 1, 1) := by decide +kernel
theorem d_X11_vote_14 : decode cX11_vote 14 = .ok (.isub, 1) := by decide +kernel
theorem d_X11_vote_15 : decode cX11_vote 15 = .ok (.istore 4, 2) := by decide +kernel
theorem d_X11_vote_17 : decode cX11_vote 17 = .ok (.aload_n 0, 1) := by decide +kernel
theorem d_X11_vote_18 : decode cX11_vote 18 = .ok (.iload_n 1, 1) := by decide +kernel
theorem d_X11_vote_19 : decode cX11_vote 19 = .ok (.iconst 0, 1) := by decide +kernel
theorem d_X11_vote_20 : decode cX11_vote 20 = .ok (.iload 4, 2) := by decide +kernel
theorem d_X11_vote_22 : decode cX11_vote 22 = .ok (.invokestatic 140, 3) := by decide +kernel
theorem d_X11_vote_25 : decode cX11_vote 25 = .ok (.ifCond .eq 32, 3) := by decide +kernel
theorem d_X11_vote_28 : decode cX11_vote 28 = .ok (.iload_n 2, 1) := by decide +kernel
theorem d_X11_vote_29 : decode cX11_vote 29 = .ok (.iconst 0, 1) := by decide +kernel
theorem d_X11_vote_30 : decode cX11_vote 30 = .ok (.iload 4, 2) := by decide +kernel
theorem d_X11_vote_32 : decode cX11_vote 32 = .ok (.invokestatic 140, 3) := by decide +kernel
theorem d_X11_vote_35 : decode cX11_vote 35 = .ok (.ifCond .eq 22, 3) := by decide +kernel
theorem d_X11_vote_38 : decode cX11_vote 38 = .ok (.iload_n 1, 1) := by decide +kernel
theorem d_X11_vote_39 : decode cX11_vote 39 = .ok (.iload_n 2, 1) := by decide +kernel
theorem d_X11_vote_40 : decode cX11_vote 40 = .ok (.iand, 1) := by decide +kernel
theorem d_X11_vote_41 : decode cX11_vote 41 = .ok (.ifCond .ne 16, 3) := by decide +kernel
theorem d_X11_vote_44 : decode cX11_vote 44 = .ok (.iload_n 3, 1) := by decide +kernel
theorem d_X11_vote_45 : decode cX11_vote 45 = .ok (.sipush (-9999), 3) := by decide +kernel
theorem d_X11_vote_48 : decode cX11_vote 48 = .ok (.sipush 9999, 3) := by decide +kernel
theorem d_X11_vote_51 : decode cX11_vote 51 = .ok (.invokestatic 140, 3) := by decide +kernel
theorem d_X11_vote_54 : decode cX11_vote 54 = .ok (.ifCond .ne 7, 3) := by decide +kernel
theorem d_X11_vote_57 : decode cX11_vote 57 = .ok (.iconst 1, 1) := by decide +kernel
theorem d_X11_vote_58 : decode cX11_vote 58 = .ok (.goto 4, 3) := by decide +kernel
theorem d_X11_vote_61 : decode cX11_vote 61 = .ok (.iconst 0, 1) := by decide +kernel
theorem d_X11_vote_62 : decode cX11_vote 62 = .ok (.iconst 1, 1) := by decide +kernel
theorem d_X11_vote_63 : decode cX11_vote 63 = .ok (.iconst 1, 1) := by decide +kernel
theorem d_X11_vote_64 : decode cX11_vote 64 = .ok (.invokevirtual 188, 3) := by decide +kernel
theorem d_X11_vote_67 : decode cX11_vote 67 = .ok (.ifCond .eq 5, 3) := by decide +kernel
theorem d_X11_vote_70 : decode cX11_vote 70 = .ok (.iconst 0, 1) := by decide +kernel
theorem d_X11_vote_71 : decode cX11_vote 71 = .ok (.ireturn, 1) := by decide +kernel
theorem d_X11_vote_72 : decode cX11_vote 72 = .ok (.aload_n 0, 1) := by decide +kernel
theorem d_X11_vote_73 : decode cX11_vote 73 = .ok (.getfield 202, 3) := by decide +kernel
theorem d_X11_vote_76 : decode cX11_vote 76 = .ok (.bipush 9, 2) := by decide +kernel
theorem d_X11_vote_78 : decode cX11_vote 78 = .ok (.if_icmp .ne 5, 3) := by decide +kernel
theorem d_X11_vote_81 : decode cX11_vote 81 = .ok (.iconst (-1), 1) := by decide +kernel
theorem d_X11_vote_82 : decode cX11_vote 82 = .ok (.ireturn, 1) := by decide +kernel
theorem d_X11_vote_83 : decode cX11_vote 83 = .ok (.aload_n 0, 1) := by decide +kernel
theorem d_X11_vote_84 : decode cX11_vote 84 = .ok (.getfield 58, 3) := by decide +kernel
theorem d_X11_vote_87 : decode cX11_vote 87 = .ok (.aload_n 0, 1) := by decide +kernel
theorem d_X11_vote_88 : decode cX11_vote 88 = .ok (.getfield 202, 3) := by decide +kernel
theorem d_X11_vote_91 : decode cX11_vote 91 = .ok (.aaload, 1) := by decide +kernel
theorem d_X11_vote_92 : decode cX11_vote 92 = .ok (.iconst 0, 1) := by decide +kernel
theorem d_X11_vote_93 : decode cX11_vote 93 = .ok (.iload_n 1, 1) := by decide +kernel
theorem d_X11_vote_94 : decode cX11_vote 94 = .ok (.iastore, 1) := by decide +kernel
theorem d_X11_vote_95 : decode cX11_vote 95 = .ok (.aload_n 0, 1) := by decide +kernel
theorem d_X11_vote_96 : decode cX11_vote 96 = .ok (.getfield 58, 3) := by decide +kernel
theorem d_X11_vote_99 : decode cX11_vote 99 = .ok (.aload_n 0, 1) := by decide +kernel
theorem d_X11_vote_100 : decode cX11_vote 100 = .ok (.getfield 202, 3) := by decide +kernel
theorem d_X11_vote_103 : decode cX11_vote 103 = .ok (.aaload, 1) := by decide +kernel
theorem d_X11_vote_104 : decode cX11_vote 104 = .ok (.iconst 1, 1) := by decide +kernel
theorem d_X11_vote_105 : decode cX11_vote 105 = .ok (.iload_n 2, 1) := by decide +kernel
theorem d_X11_vote_106 : decode cX11_vote 106 = .ok (.iastore, 1) := by decide +kernel
theorem d_X11_vote_107 : decode cX11_vote 107 = .ok (.aload_n 0, 1) := by decide +kernel
theorem d_X11_vote_108 : decode cX11_vote 108 = .ok (.getfield 58, 3) := by decide +kernel
theorem d_X11_vote_111 : decode cX11_vote 111 = .ok (.aload_n 0, 1) := by decide +kernel
theorem d_X11_vote_112 : decode cX11_vote 112 = .ok (.getfield 202, 3) := by decide +kernel
theorem d_X11_vote_115 : decode cX11_vote 115 = .ok (.aaload, 1) := by decide +kernel
theorem d_X11_vote_116 : decode cX11_vote 116 = .ok (.iconst 2, 1) := by decide +kernel
theorem d_X11_vote_117 : decode cX11_vote 117 = .ok (.iload_n 3, 1) := by decide +kernel
theorem d_X11_vote_118 : decode cX11_vote 118 = .ok (.iastore, 1) := by decide +kernel
theorem d_X11_vote_119 : decode cX11_vote 119 = .ok (.aload_n 0, 1) := by decide +kernel
theorem d_X11_vote_120 : decode cX11_vote 120 = .ok (.dup, 1) := by decide +kernel
theorem d_X11_vote_121 : decode cX11_vote 121 = .ok (.getfield 202, 3) := by decide +kernel
theorem d_X11_vote_124 : decode cX11_vote 124 = .ok (.iconst 1, 1) := by decide +kernel
theorem d_X11_vote_125 : decode cX11_vote 125 = .ok (.iadd, 1) := by decide +kernel
theorem d_X11_vote_126 : decode cX11_vote 126 = .ok (.putfield 202, 3) := by decide +kernel
theorem d_X11_vote_129 : decode cX11_vote 129 = .ok (.aload_n 0, 1) := by decide +kernel
theorem d_X11_vote_130 : decode cX11_vote 130 = .ok (.getfield 202, 3) := by decide +kernel
theorem d_X11_vote_133 : decode cX11_vote 133 = .ok (.ireturn, 1) := by decide +kernel
set_option maxRecDepth 100000 in
theorem L_X11_vote {p : Program} {l : Launch} {e : Env} {s : State} {m : MethodId} {args : Array Value} {below : List Frame} {meth : Method} {c : Code} {D : va_G} {ca : Nat → ClassId} {ad sx sy : Nat → Nat} {A : Nat → Prop} {Q : QT} (C0 : CX p s m args meth c cX11_vote 5 yX11_vote.cls D ca ad A) (hE : EX sx sy A s s.heap) (hr : meth.sig.returnType = (some .int)) (hno : ∀ x ∈ c.exceptionTable.toList, False) : R_X11_vote (JW p l e { frames := 11, cells := 0, slots := 6 * 0, locals := 223 } s m args below meth c 5 D ca ad A (vx_MQ below (Qn D ca ad A Q) (Qx D ca ad A Q) args s 0 (6 * 0) A) gz gz true) Q := ⟨s_aln C0 (d_X11_vote_0) hgz (s_ic C0 (d_X11_vote_1) hgz (s_pi C0 (j := 0) (c0 := 11) rfl gX11 tyX11_ok nmX11 (by decide) rfl (by decide) rfl rfl wg1201 (d_X11_vote_2) hgz (s_ic C0 (d_X11_vote_5) hgz (s_aln C0 (d_X11_vote_6) hgz (s_gr C0 (j := 11) (c0 := 11) rfl gX11 (by decide) rfl rfl wg1212 (d_X11_vote_7) hgz (s_ic C0 (d_X11_vote_10) hgz (s_ia C0 (d_X11_vote_11) hgz (s_shl C0 (d_X11_vote_12) hgz (s_ic C0 (d_X11_vote_13) hgz (s_sub C0 (d_X11_vote_14) hgz (s_is C0 (d_X11_vote_15) hgz (s_aln C0 (d_X11_vote_17) hgz (s_iln C0 (d_X11_vote_18) hgz (s_ic C0 (d_X11_vote_19) hgz (s_il C0 (d_X11_vote_20) hgz (s_callS C0 hE (c_X11_in l) wg1355 wg1353 wg1354 wg12 ⟨by decide, by decide⟩ (by decide +kernel) ⟨by decide, by decide⟩ ⟨by decide, by decide⟩ (d_X11_vote_22) (fun x hx => (hno x hx).elim) ⟨by decide, by decide⟩ ⟨by decide, by decide⟩ (s_zeq C0 (d_X11_vote_25) (by decide) hgz hgz (fun _ _ _ h => h) (s_iln C0 (d_X11_vote_28) hgz (s_ic C0 (d_X11_vote_29) hgz (s_il C0 (d_X11_vote_30) hgz (s_callS C0 hE (c_X11_in l) wg1355 wg1353 wg1354 wg12 ⟨by decide, by decide⟩ (by decide +kernel) ⟨by decide, by decide⟩ ⟨by decide, by decide⟩ (d_X11_vote_32) (fun x hx => (hno x hx).elim) ⟨by decide, by decide⟩ ⟨by decide, by decide⟩ (s_zeq C0 (d_X11_vote_35) (by decide) hgz hgz (fun _ _ _ h => h) (s_iln C0 (d_X11_vote_38) hgz (s_iln C0 (d_X11_vote_39) hgz (s_and C0 (d_X11_vote_40) hgz (s_zne C0 (d_X11_vote_41) (by decide) hgz hgz (fun _ _ _ h => h) (s_iln C0 (d_X11_vote_44) hgz (s_si C0 (d_X11_vote_45) hgz (s_si C0 (d_X11_vote_48) hgz (s_callS C0 hE (c_X11_in l) wg1355 wg1353 wg1354 wg12 ⟨by decide, by decide⟩ (by decide +kernel) ⟨by decide, by decide⟩ ⟨by decide, by decide⟩ (d_X11_vote_51) (fun x hx => (hno x hx).elim) ⟨by decide, by decide⟩ ⟨by decide, by decide⟩ (s_zne C0 (d_X11_vote_54) (by decide) hgz hgz (fun _ _ _ h => h) (fun _ _ _ h => h))) (okn rfl) rfl) (okn rfl) rfl))))))))) (okn rfl)))))) (okn rfl)))))) (okn rfl)))) (okn rfl)))) (okn rfl))) (okn rfl)),
  s_ic C0 (d_X11_vote_57) hgz (s_goto C0 (tgt := 62) (d_X11_vote_58) (by decide) hgz (fun _ _ _ h => h)) (okn rfl),
  s_ic C0 (d_X11_vote_61) hgz (fun _ _ _ h => h) (okn rfl),
  s_ic C0 (d_X11_vote_62) hgz (s_ic C0 (d_X11_vote_63) hgz (s_callV C0 hE (c_X11_bad l) wg1359 wg1356 wg1358 ws82 wg12 ⟨by decide, by decide⟩ (by decide +kernel) (c0 := 11) rfl ⟨by decide, by decide⟩ ⟨by decide, by decide⟩ (d_X11_vote_64) (fun x hx => (hno x hx).elim) ⟨by decide, by decide⟩ ⟨by decide, by decide⟩ (s_zeq C0 (d_X11_vote_67) (by decide) hgz hgz (fun _ _ _ h => h) (s_ic C0 (d_X11_vote_70) hgz (s_ri C0 hr (d_X11_vote_71) ⟨by decide, by decide⟩) (okn rfl)))) (okn rfl)) (okn rfl),
  s_aln C0 (d_X11_vote_72) hgz (s_gi C0 (j := 23) (c0 := 11) rfl gX11 (by decide) rfl (by decide) wg1224 (d_X11_vote_73) hgz (s_bi C0 (d_X11_vote_76) hgz (s_cne C0 (d_X11_vote_78) (by decide) hgz hgz (fun _ _ _ h => h) (s_ic C0 (d_X11_vote_81) hgz (s_ri C0 hr (d_X11_vote_82) ⟨by decide, by decide⟩) (okn rfl))) (okn rfl) rfl)),
  s_aln C0 (d_X11_vote_83) hgz (s_gr C0 (j := 26) (c0 := 11) rfl gX11 (by decide) rfl rfl wg1227 (d_X11_vote_84) hgz (s_aln C0 (d_X11_vote_87) hgz (s_gi C0 (j := 23) (c0 := 11) rfl gX11 (by decide) rfl (by decide) wg1224 (d_X11_vote_88) hgz (s_aa C0 (by decide) (by decide) rfl rfl (d_X11_vote_91) hgz (s_ic C0 (d_X11_vote_92) hgz (s_iln C0 (d_X11_vote_93) hgz (s_iax C0 (d_X11_vote_94) hgz (s_aln C0 (d_X11_vote_95) hgz (s_gr C0 (j := 26) (c0 := 11) rfl gX11 (by decide) rfl rfl wg1227 (d_X11_vote_96) hgz (s_aln C0 (d_X11_vote_99) hgz (s_gi C0 (j := 23) (c0 := 11) rfl gX11 (by decide) rfl (by decide) wg1224 (d_X11_vote_100) hgz (s_aa C0 (by decide) (by decide) rfl rfl (d_X11_vote_103) hgz (s_ic C0 (d_X11_vote_104) hgz (s_iln C0 (d_X11_vote_105) hgz (s_iax C0 (d_X11_vote_106) hgz (s_aln C0 (d_X11_vote_107) hgz (s_gr C0 (j := 26) (c0 := 11) rfl gX11 (by decide) rfl rfl wg1227 (d_X11_vote_108) hgz (s_aln C0 (d_X11_vote_111) hgz (s_gi C0 (j := 23) (c0 := 11) rfl gX11 (by decide) rfl (by decide) wg1224 (d_X11_vote_112) hgz (s_aa C0 (by decide) (by decide) rfl rfl (d_X11_vote_115) hgz (s_ic C0 (d_X11_vote_116) hgz (s_iln C0 (d_X11_vote_117) hgz (s_iax C0 (d_X11_vote_118) hgz (s_aln C0 (d_X11_vote_119) hgz (s_dup C0 (d_X11_vote_120) hgz (s_gi C0 (j := 23) (c0 := 11) rfl gX11 (by decide) rfl (by decide) wg1224 (d_X11_vote_121) hgz (s_ic C0 (d_X11_vote_124) hgz (s_add C0 (d_X11_vote_125) hgz (s_pi C0 (j := 23) (c0 := 11) rfl gX11 tyX11_ok nmX11 (by decide) rfl (by decide) rfl rfl wg1224 (d_X11_vote_126) hgz (s_aln C0 (d_X11_vote_129) hgz (s_gi C0 (j := 23) (c0 := 11) rfl gX11 (by decide) rfl (by decide) wg1224 (d_X11_vote_130) hgz (s_ri C0 hr (d_X11_vote_133) ⟨by decide, by decide⟩))))) (okn rfl))))))) (okn rfl))))))))) (okn rfl))))))))) (okn rfl))))))⟩
theorem c_X11_vote (l : Launch) : Ctr l yX11_vote cX11_vote 5 (some .int) 11 223 0 (fun sx => (nf G_X11_vote)) := ctr_of (by decide) gz gz ⟨rfl, rfl⟩ (fun p e s m args below meth c D ca ad sx sy A Q as M C0 hE hr hno hF => P_X11_vote (L_X11_vote C0 hE hr hno) hF)
theorem d_X11_wins_0 : decode cX11_wins 0 = .ok (.aload_n 0, 1) := by decide +kernel
theorem d_X11_wins_1 : decode cX11_wins 1 = .ok (.iconst 0, 1) := by decide +kernel
theorem d_X11_wins_2 : decode cX11_wins 2 = .ok (.putfield 106, 3) := by decide +kernel
theorem d_X11_wins_5 : decode cX11_wins 5 = .ok (.aload_n 0, 1) := by decide +kernel
theorem d_X11_wins_6 : decode cX11_wins 6 = .ok (.iload_n 1, 1) := by decide +kernel
theorem d_X11_wins_7 : decode cX11_wins 7 = .ok (.iconst 0, 1) := by decide +kernel
theorem d_X11_wins_8 : decode cX11_wins 8 = .ok (.bipush 15, 2) := by decide +kernel
theorem d_X11_wins_10 : decode cX11_wins 10 = .ok (.invokestatic 140, 3) := by decide +kernel
theorem d_X11_wins_13 : decode cX11_wins 13 = .ok (.ifCond .ne 7, 3) := by decide +kernel
theorem d_X11_wins_16 : decode cX11_wins 16 = .ok (.iconst 1, 1) := by decide +kernel
theorem d_X11_wins_17 : decode cX11_wins 17 = .ok (.goto 4, 3) := by decide +kernel
theorem d_X11_wins_20 : decode cX11_wins 20 = .ok (.iconst 0, 1) := by decide +kernel
theorem d_X11_wins_21 : decode cX11_wins 21 = .ok (.iconst 1, 1) := by decide +kernel
theorem d_X11_wins_22 : decode cX11_wins 22 = .ok (.iconst 1, 1) := by decide +kernel
theorem d_X11_wins_23 : decode cX11_wins 23 = .ok (.invokevirtual 188, 3) := by decide +kernel
theorem d_X11_wins_26 : decode cX11_wins 26 = .ok (.ifCond .eq 5, 3) := by decide +kernel
theorem d_X11_wins_29 : decode cX11_wins 29 = .ok (.iconst 0, 1) := by decide +kernel
theorem d_X11_wins_30 : decode cX11_wins 30 = .ok (.ireturn, 1) := by decide +kernel
theorem d_X11_wins_31 : decode cX11_wins 31 = .ok (.aload_n 0, 1) := by decide +kernel
theorem d_X11_wins_32 : decode cX11_wins 32 = .ok (.iload_n 1, 1) := by decide +kernel
theorem d_X11_wins_33 : decode cX11_wins 33 = .ok (.invokevirtual 296, 3) := by decide +kernel
theorem d_X11_wins_36 : decode cX11_wins 36 = .ok (.ireturn, 1) := by decide +kernel
set_option maxRecDepth 100000 in
theorem L_X11_wins {p : Program} {l : Launch} {e : Env} {s : State} {m : MethodId} {args : Array Value} {below : List Frame} {meth : Method} {c : Code} {D : va_G} {ca : Nat → ClassId} {ad sx sy : Nat → Nat} {A : Nat → Prop} {Q : QT} (C0 : CX p s m args meth c cX11_wins 2 yX11_wins.cls D ca ad A) (hE : EX sx sy A s s.heap) (hr : meth.sig.returnType = (some .boolean)) (hno : ∀ x ∈ c.exceptionTable.toList, False) : R_X11_wins (JW p l e { frames := 12, cells := 0, slots := 6 * 0, locals := 245 } s m args below meth c 2 D ca ad A (vx_MQ below (Qn D ca ad A Q) (Qx D ca ad A Q) args s 0 (6 * 0) A) gz gz true) Q := ⟨s_aln C0 (d_X11_wins_0) hgz (s_ic C0 (d_X11_wins_1) hgz (s_pi C0 (j := 0) (c0 := 11) rfl gX11 tyX11_ok nmX11 (by decide) rfl (by decide) rfl rfl wg1201 (d_X11_wins_2) hgz (s_aln C0 (d_X11_wins_5) hgz (s_iln C0 (d_X11_wins_6) hgz (s_ic C0 (d_X11_wins_7) hgz (s_bi C0 (d_X11_wins_8) hgz (s_callS C0 hE (c_X11_in l) wg1355 wg1353 wg1354 wg12 ⟨by decide, by decide⟩ (by decide +kernel) ⟨by decide, by decide⟩ ⟨by decide, by decide⟩ (d_X11_wins_10) (fun x hx => (hno x hx).elim) ⟨by decide, by decide⟩ ⟨by decide, by decide⟩ (s_zne C0 (d_X11_wins_13) (by decide) hgz hgz (fun _ _ _ h => h) (s_ic C0 (d_X11_wins_16) hgz (s_goto C0 (tgt := 21) (d_X11_wins_17) (by decide) hgz (fun _ _ _ h => h)) (okn rfl)))) (okn rfl) rfl) (okn rfl))))) (okn rfl)),
  s_ic C0 (d_X11_wins_20) hgz (fun _ _ _ h => h) (okn rfl),
  s_ic C0 (d_X11_wins_21) hgz (s_ic C0 (d_X11_wins_22) hgz (s_callV C0 hE (c_X11_bad l) wg1359 wg1356 wg1358 ws82 wg12 ⟨by decide, by decide⟩ (by decide +kernel) (c0 := 11) rfl ⟨by decide, by decide⟩ ⟨by decide, by decide⟩ (d_X11_wins_23) (fun x hx => (hno x hx).elim) ⟨by decide, by decide⟩ ⟨by decide, by decide⟩ (s_zeq C0 (d_X11_wins_26) (by decide) hgz hgz (fun _ _ _ h => h) (s_ic C0 (d_X11_wins_29) hgz (s_rz C0 hr (d_X11_wins_30) ⟨by decide, by decide⟩) (okn rfl)))) (okn rfl)) (okn rfl),
  s_aln C0 (d_X11_wins_31) hgz (s_iln C0 (d_X11_wins_32) hgz (s_callV C0 hE (c_X11_winsBy l) wg1586 wg1583 wg1585 ws115 wg12 ⟨by decide, by decide⟩ (by decide +kernel) (c0 := 11) rfl ⟨by decide, by decide⟩ ⟨by decide, by decide⟩ (d_X11_wins_33) (fun x hx => (hno x hx).elim) ⟨by decide, by decide⟩ ⟨by decide, by decide⟩ (s_rz C0 hr (d_X11_wins_36) ⟨by decide, by decide⟩)))⟩
theorem c_X11_wins (l : Launch) : Ctr l yX11_wins cX11_wins 2 (some .boolean) 12 245 0 (fun sx => (nf G_X11_wins)) := ctr_of (by decide) gz gz ⟨rfl, rfl⟩ (fun p e s m args below meth c D ca ad sx sy A Q as M C0 hE hr hno hF => P_X11_wins (L_X11_wins C0 hE hr hno) hF)
