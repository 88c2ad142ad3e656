theorem wg98 : Cond.fieldLink "WeighedHall$Plan" 21 "WeighedHall$Plan" "weight" "[I" ∈ GT := gt_mem 218 (by decide +kernel) rfl
theorem wg92 : Cond.fieldLink "WeighedHall$Plan" 18 "WeighedHall$Plan" "owner" "[I" ∈ GT := gt_mem 212 (by decide +kernel) rfl
theorem wg84 : Cond.fieldLink "WeighedHall$Plan" 46 "WeighedHall$Plan" "things" "I" ∈ GT := gt_mem 204 (by decide +kernel) rfl
theorem d_X6_ownPounds_0 : decode cX6_ownPounds 0 = .ok (.iconst 0, 1) := by decide +kernel
theorem d_X6_ownPounds_1 : decode cX6_ownPounds 1 = .ok (.istore_n 2, 1) := by decide +kernel
theorem d_X6_ownPounds_2 : decode cX6_ownPounds 2 = .ok (.iconst 0, 1) := by decide +kernel
theorem d_X6_ownPounds_3 : decode cX6_ownPounds 3 = .ok (.istore_n 3, 1) := by decide +kernel
theorem d_X6_ownPounds_4 : decode cX6_ownPounds 4 = .ok (.iload_n 3, 1) := by decide +kernel
theorem d_X6_ownPounds_5 : decode cX6_ownPounds 5 = .ok (.aload_n 0, 1) := by decide +kernel
theorem d_X6_ownPounds_6 : decode cX6_ownPounds 6 = .ok (.getfield 46, 3) := by decide +kernel
theorem d_X6_ownPounds_9 : decode cX6_ownPounds 9 = .ok (.if_icmp .ge 28, 3) := by decide +kernel
theorem d_X6_ownPounds_12 : decode cX6_ownPounds 12 = .ok (.aload_n 0, 1) := by decide +kernel
theorem d_X6_ownPounds_13 : decode cX6_ownPounds 13 = .ok (.getfield 18, 3) := by decide +kernel
theorem d_X6_ownPounds_16 : decode cX6_ownPounds 16 = .ok (.iload_n 3, 1) := by decide +kernel
theorem d_X6_ownPounds_17 : decode cX6_ownPounds 17 = .ok (.iaload, 1) := by decide +kernel
theorem d_X6_ownPounds_18 : decode cX6_ownPounds 18 = .ok (.iload_n 1, 1) := by decide +kernel
theorem d_X6_ownPounds_19 : decode cX6_ownPounds 19 = .ok (.if_icmp .ne 12, 3) := by decide +kernel
theorem d_X6_ownPounds_22 : decode cX6_ownPounds 22 = .ok (.iload_n 2, 1) := by decide +kernel
theorem d_X6_ownPounds_23 : decode cX6_ownPounds 23 = .ok (.aload_n 0, 1) := by decide +kernel
theorem d_X6_ownPounds_24 : decode cX6_ownPounds 24 = .ok (.getfield 21, 3) := by decide +kernel
theorem d_X6_ownPounds_27 : decode cX6_ownPounds 27 = .ok (.iload_n 3, 1) := by decide +kernel
theorem d_X6_ownPounds_28 : decode cX6_ownPounds 28 = .ok (.iaload, 1) := by decide +kernel
theorem d_X6_ownPounds_29 : decode cX6_ownPounds 29 = .ok (.iadd, 1) := by decide +kernel
theorem d_X6_ownPounds_30 : decode cX6_ownPounds 30 = .ok (.istore_n 2, 1) := by decide +kernel
theorem d_X6_ownPounds_31 : decode cX6_ownPounds 31 = .ok (.iinc 3 1, 3) := by decide +kernel
theorem d_X6_ownPounds_34 : decode cX6_ownPounds 34 = .ok (.goto (-30), 3) := by decide +kernel
theorem d_X6_ownPounds_37 : decode cX6_ownPounds 37 = .ok (.iload_n 2, 1) := by decide +kernel
theorem d_X6_ownPounds_38 : decode cX6_ownPounds 38 = .ok (.ireturn, 1) := by decide +kernel
set_option maxRecDepth 100000 in
theorem L_X6_ownPounds {p : Program} {l : Launch} {e : Env} {s : State} {m : MethodId} {args : Array Value} {below : List Frame} {meth : Method} {c : Code} {D : va_G} {ca : Nat → ClassId} {ad sx sy : Nat → Nat} {A : Nat → Prop} {Q : QT} (C0 : CX p s m args meth c cX6_ownPounds 4 yX6_ownPounds.cls D ca ad A) (hE : EX sx sy A s s.heap) (hr : meth.sig.returnType = (some .int)) (hno : ∀ x ∈ c.exceptionTable.toList, False) : R_X6_ownPounds (JW p l e { frames := 10, cells := 0, slots := 6 * 0, locals := 200 } s m args below meth c 4 D ca ad A (vx_MQ below (Qn D ca ad A Q) (Qx D ca ad A Q) args s 0 (6 * 0) A) gz gz true) Q := ⟨s_ic C0 (d_X6_ownPounds_0) hgz (s_isn C0 (d_X6_ownPounds_1) hgz (s_ic C0 (d_X6_ownPounds_2) hgz (s_isn C0 (d_X6_ownPounds_3) hgz (fun _ _ _ h => h)) (okn rfl))) (okn rfl),
  s_iln C0 (d_X6_ownPounds_4) hgz (s_aln C0 (d_X6_ownPounds_5) hgz (s_gi C0 (j := 3) (c0 := 6) rfl gX6 (by decide) rfl (by decide) wg84 (d_X6_ownPounds_6) hgz (s_cge C0 (d_X6_ownPounds_9) (by decide) hgz hgz (fun _ _ _ h => h) (s_aln C0 (d_X6_ownPounds_12) hgz (s_gr C0 (j := 4) (c0 := 6) rfl gX6 (by decide) rfl rfl wg92 (d_X6_ownPounds_13) hgz (s_iln C0 (d_X6_ownPounds_16) hgz (s_ia C0 (d_X6_ownPounds_17) hgz (s_iln C0 (d_X6_ownPounds_18) hgz (s_cne C0 (d_X6_ownPounds_19) (by decide) hgz hgz (fun _ _ _ h => h) (s_iln C0 (d_X6_ownPounds_22) hgz (s_aln C0 (d_X6_ownPounds_23) hgz (s_gr C0 (j := 5) (c0 := 6) rfl gX6 (by decide) rfl rfl wg98 (d_X6_ownPounds_24) hgz (s_iln C0 (d_X6_ownPounds_27) hgz (s_ia C0 (d_X6_ownPounds_28) hgz (s_add C0 (d_X6_ownPounds_29) hgz (s_isn C0 (d_X6_ownPounds_30) hgz (fun _ _ _ h => h))))))))))))))))),
  s_inc C0 (d_X6_ownPounds_31) hgz (s_goto C0 (tgt := 4) (d_X6_ownPounds_34) (by decide) hgz (fun _ _ _ h => h)),
  s_iln C0 (d_X6_ownPounds_37) hgz (s_ri C0 hr (d_X6_ownPounds_38) ⟨by decide, by decide⟩)⟩
theorem c_X6_ownPounds (l : Launch) : Ctr l yX6_ownPounds cX6_ownPounds 4 (some .int) 10 200 0 (fun sx => (nf G_X6_ownPounds)) := ctr_of (by decide) gz gz ⟨rfl, rfl⟩ (fun p e s m args below meth c D ca ad sx sy A Q as M C0 hE hr hno hF => P_X6_ownPounds (L_X6_ownPounds C0 hE hr hno) hF)
