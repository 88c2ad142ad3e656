theorem wg879 : Cond.code ⟨"WeighedHall$Sitting", "homeOf", "(I)I"⟩ prog_10_method_11_code 2 (Option.some .int) ∈ GT := gt_mem 999 (by decide +kernel) rfl
theorem wg876 : Cond.methodLink "WeighedHall$Sitting" 89 ⟨"WeighedHall$Sitting", "homeOf", "(I)I"⟩ ∈ GT := gt_mem 996 (by decide +kernel) rfl
theorem wg878 : Cond.instanceMethod ⟨"WeighedHall$Sitting", "homeOf", "(I)I"⟩ ∈ GT := gt_mem 998 (by decide +kernel) rfl
theorem ws45 : Cond.selects "WeighedHall$Sitting" ⟨"WeighedHall$Sitting", "homeOf", "(I)I"⟩ ⟨"WeighedHall$Sitting", "homeOf", "(I)I"⟩ ∈ GT := gt_mem 45 (by decide +kernel) rfl
theorem wn178 : Cond.fieldLinkNest "WeighedHall$Sitting" 106 "WeighedHall$Loans" "taker" "[I" "WeighedHall" ∈ NT := nt_mem 178 (by decide +kernel) rfl
theorem wg791 : Cond.code ⟨"WeighedHall$Plan", "hasThing", "(I)Z"⟩ prog_8_method_14_code 2 (Option.some .boolean) ∈ GT := gt_mem 911 (by decide +kernel) rfl
theorem wn888 : Cond.methodLinkNest "WeighedHall$Sitting" 102 ⟨"WeighedHall$Plan", "hasThing", "(I)Z"⟩ "WeighedHall" ∈ NT := nt_mem 888 (by decide +kernel) rfl
theorem wg790 : Cond.instanceMethod ⟨"WeighedHall$Plan", "hasThing", "(I)Z"⟩ ∈ GT := gt_mem 910 (by decide +kernel) rfl
theorem ws35 : Cond.selects "WeighedHall$Plan" ⟨"WeighedHall$Plan", "hasThing", "(I)Z"⟩ ⟨"WeighedHall$Plan", "hasThing", "(I)Z"⟩ ∈ GT := gt_mem 35 (by decide +kernel) rfl
theorem wn182 : Cond.fieldLinkNest "WeighedHall$Sitting" 99 "WeighedHall$Loans" "till" "[I" "WeighedHall" ∈ NT := nt_mem 182 (by decide +kernel) rfl
theorem wn176 : Cond.fieldLinkNest "WeighedHall$Sitting" 96 "WeighedHall$Loans" "thing" "[I" "WeighedHall" ∈ NT := nt_mem 176 (by decide +kernel) rfl
theorem wn174 : Cond.fieldLinkNest "WeighedHall$Sitting" 93 "WeighedHall$Loans" "number" "I" "WeighedHall" ∈ NT := nt_mem 174 (by decide +kernel) rfl
theorem d_X8_giveBack_0 : decode cX8_giveBack 0 = .ok (.iconst 0, 1) := by decide +kernel
theorem d_X8_giveBack_1 : decode cX8_giveBack 1 = .ok (.istore_n 2, 1) := by decide +kernel
theorem d_X8_giveBack_2 : decode cX8_giveBack 2 = .ok (.iload_n 2, 1) := by decide +kernel
theorem d_X8_giveBack_3 : decode cX8_giveBack 3 = .ok (.aload_n 0, 1) := by decide +kernel
theorem d_X8_giveBack_4 : decode cX8_giveBack 4 = .ok (.getfield 21, 3) := by decide +kernel
theorem d_X8_giveBack_7 : decode cX8_giveBack 7 = .ok (.getfield 93, 3) := by decide +kernel
theorem d_X8_giveBack_10 : decode cX8_giveBack 10 = .ok (.if_icmp .ge 89, 3) := by decide +kernel
theorem d_X8_giveBack_13 : decode cX8_giveBack 13 = .ok (.aload_n 0, 1) := by decide +kernel
theorem d_X8_giveBack_14 : decode cX8_giveBack 14 = .ok (.getfield 21, 3) := by decide +kernel
theorem d_X8_giveBack_17 : decode cX8_giveBack 17 = .ok (.getfield 96, 3) := by decide +kernel
theorem d_X8_giveBack_20 : decode cX8_giveBack 20 = .ok (.iload_n 2, 1) := by decide +kernel
theorem d_X8_giveBack_21 : decode cX8_giveBack 21 = .ok (.iaload, 1) := by decide +kernel
theorem d_X8_giveBack_22 : decode cX8_giveBack 22 = .ok (.istore_n 3, 1) := by decide +kernel
theorem d_X8_giveBack_23 : decode cX8_giveBack 23 = .ok (.aload_n 0, 1) := by decide +kernel
theorem d_X8_giveBack_24 : decode cX8_giveBack 24 = .ok (.getfield 21, 3) := by decide +kernel
theorem d_X8_giveBack_27 : decode cX8_giveBack 27 = .ok (.getfield 99, 3) := by decide +kernel
theorem d_X8_giveBack_30 : decode cX8_giveBack 30 = .ok (.iload_n 2, 1) := by decide +kernel
theorem d_X8_giveBack_31 : decode cX8_giveBack 31 = .ok (.iaload, 1) := by decide +kernel
theorem d_X8_giveBack_32 : decode cX8_giveBack 32 = .ok (.iload_n 1, 1) := by decide +kernel
theorem d_X8_giveBack_33 : decode cX8_giveBack 33 = .ok (.if_icmp .ne 60, 3) := by decide +kernel
theorem d_X8_giveBack_36 : decode cX8_giveBack 36 = .ok (.aload_n 0, 1) := by decide +kernel
theorem d_X8_giveBack_37 : decode cX8_giveBack 37 = .ok (.getfield 12, 3) := by decide +kernel
theorem d_X8_giveBack_40 : decode cX8_giveBack 40 = .ok (.iload_n 3, 1) := by decide +kernel
theorem d_X8_giveBack_41 : decode cX8_giveBack 41 = .ok (.invokevirtual 102, 3) := by decide +kernel
theorem d_X8_giveBack_44 : decode cX8_giveBack 44 = .ok (.ifCond .eq 49, 3) := by decide +kernel
theorem d_X8_giveBack_47 : decode cX8_giveBack 47 = .ok (.aload_n 0, 1) := by decide +kernel
theorem d_X8_giveBack_48 : decode cX8_giveBack 48 = .ok (.getfield 32, 3) := by decide +kernel
theorem d_X8_giveBack_51 : decode cX8_giveBack 51 = .ok (.iload_n 3, 1) := by decide +kernel
theorem d_X8_giveBack_52 : decode cX8_giveBack 52 = .ok (.iaload, 1) := by decide +kernel
theorem d_X8_giveBack_53 : decode cX8_giveBack 53 = .ok (.iload_n 2, 1) := by decide +kernel
theorem d_X8_giveBack_54 : decode cX8_giveBack 54 = .ok (.if_icmp .ne 39, 3) := by decide +kernel
theorem d_X8_giveBack_57 : decode cX8_giveBack 57 = .ok (.aload_n 0, 1) := by decide +kernel
theorem d_X8_giveBack_58 : decode cX8_giveBack 58 = .ok (.getfield 32, 3) := by decide +kernel
theorem d_X8_giveBack_61 : decode cX8_giveBack 61 = .ok (.iload_n 3, 1) := by decide +kernel
theorem d_X8_giveBack_62 : decode cX8_giveBack 62 = .ok (.iconst (-1), 1) := by decide +kernel
theorem d_X8_giveBack_63 : decode cX8_giveBack 63 = .ok (.iastore, 1) := by decide +kernel
theorem d_X8_giveBack_64 : decode cX8_giveBack 64 = .ok (.aload_n 0, 1) := by decide +kernel
theorem d_X8_giveBack_65 : decode cX8_giveBack 65 = .ok (.getfield 25, 3) := by decide +kernel
theorem d_X8_giveBack_68 : decode cX8_giveBack 68 = .ok (.iload_n 3, 1) := by decide +kernel
theorem d_X8_giveBack_69 : decode cX8_giveBack 69 = .ok (.iaload, 1) := by decide +kernel
theorem d_X8_giveBack_70 : decode cX8_giveBack 70 = .ok (.aload_n 0, 1) := by decide +kernel
theorem d_X8_giveBack_71 : decode cX8_giveBack 71 = .ok (.getfield 21, 3) := by decide +kernel
theorem d_X8_giveBack_74 : decode cX8_giveBack 74 = .ok (.getfield 106, 3) := by decide +kernel
theorem d_X8_giveBack_77 : decode cX8_giveBack 77 = .ok (.iload_n 2, 1) := by decide +kernel
theorem d_X8_giveBack_78 : decode cX8_giveBack 78 = .ok (.iaload, 1) := by decide +kernel
theorem d_X8_giveBack_79 : decode cX8_giveBack 79 = .ok (.if_icmp .ne 14, 3) := by decide +kernel
theorem d_X8_giveBack_82 : decode cX8_giveBack 82 = .ok (.aload_n 0, 1) := by decide +kernel
theorem d_X8_giveBack_83 : decode cX8_giveBack 83 = .ok (.getfield 25, 3) := by decide +kernel
theorem d_X8_giveBack_86 : decode cX8_giveBack 86 = .ok (.iload_n 3, 1) := by decide +kernel
theorem d_X8_giveBack_87 : decode cX8_giveBack 87 = .ok (.aload_n 0, 1) := by decide +kernel
theorem d_X8_giveBack_88 : decode cX8_giveBack 88 = .ok (.iload_n 3, 1) := by decide +kernel
theorem d_X8_giveBack_89 : decode cX8_giveBack 89 = .ok (.invokevirtual 89, 3) := by decide +kernel
theorem d_X8_giveBack_92 : decode cX8_giveBack 92 = .ok (.iastore, 1) := by decide +kernel
theorem d_X8_giveBack_93 : decode cX8_giveBack 93 = .ok (.iinc 2 1, 3) := by decide +kernel
theorem d_X8_giveBack_96 : decode cX8_giveBack 96 = .ok (.goto (-94), 3) := by decide +kernel
theorem d_X8_giveBack_99 : decode cX8_giveBack 99 = .ok (.return_, 1) := by decide +kernel
set_option maxRecDepth 100000 in
theorem L_X8_giveBack {p : Program} {l : Launch} {e : Env} {s : State} {m : MethodId} {args : Array Value} {below : List Frame} {meth : Method} {c : Code} {D : va_G} {ca : Nat → ClassId} {ad sx sy : Nat → Nat} {A : Nat → Prop} {Q : QT} (C0 : CX p s m args meth c cX8_giveBack 4 yX8_giveBack.cls D ca ad A) (hE : EX sx sy A s s.heap) (hr : meth.sig.returnType = none) (hno : ∀ x ∈ c.exceptionTable.toList, False) : R_X8_giveBack (JW p l e { frames := 12, cells := 0, slots := 6 * 0, locals := 242 } s m args below meth c 4 D ca ad A (vx_MQ below (Qn D ca ad A Q) (Qx D ca ad A Q) args s 0 (6 * 0) A) gz gz true) Q := ⟨s_ic C0 (d_X8_giveBack_0) hgz (s_isn C0 (d_X8_giveBack_1) hgz (fun _ _ _ h => h)) (okn rfl),
  s_iln C0 (d_X8_giveBack_2) hgz (s_aln C0 (d_X8_giveBack_3) hgz (s_gm C0 (j := 1) (c0 := 8) rfl gX8 (by decide) rfl rfl wg238 (d_X8_giveBack_4) hgz (s_giN C0 (j := 0) (c0 := 5) rfl gX5 (by decide) rfl (by decide) wn174 (d_X8_giveBack_7) hgz (s_cge C0 (d_X8_giveBack_10) (by decide) hgz hgz (fun _ _ _ h => h) (s_aln C0 (d_X8_giveBack_13) hgz (s_gm C0 (j := 1) (c0 := 8) rfl gX8 (by decide) rfl rfl wg238 (d_X8_giveBack_14) hgz (s_grN C0 (j := 1) (c0 := 5) rfl gX5 (by decide) rfl rfl wn176 (d_X8_giveBack_17) hgz (s_iln C0 (d_X8_giveBack_20) hgz (s_ia C0 (d_X8_giveBack_21) hgz (s_isn C0 (d_X8_giveBack_22) hgz (s_aln C0 (d_X8_giveBack_23) hgz (s_gm C0 (j := 1) (c0 := 8) rfl gX8 (by decide) rfl rfl wg238 (d_X8_giveBack_24) hgz (s_grN C0 (j := 4) (c0 := 5) rfl gX5 (by decide) rfl rfl wn182 (d_X8_giveBack_27) hgz (s_iln C0 (d_X8_giveBack_30) hgz (s_ia C0 (d_X8_giveBack_31) hgz (s_iln C0 (d_X8_giveBack_32) hgz (s_cne C0 (d_X8_giveBack_33) (by decide) hgz hgz (fun _ _ _ h => h) (s_aln C0 (d_X8_giveBack_36) hgz (s_gm C0 (j := 0) (c0 := 8) rfl gX8 (by decide) rfl rfl wg236 (d_X8_giveBack_37) hgz (s_iln C0 (d_X8_giveBack_40) hgz (s_callVN C0 hE (c_X6_hasThing l) wg791 wn888 wg790 ws35 wg3 ⟨by decide, by decide⟩ (by decide +kernel) (c0 := 6) rfl ⟨by decide, by decide⟩ ⟨by decide, by decide⟩ (d_X8_giveBack_41) (fun x hx => (hno x hx).elim) ⟨by decide, by decide⟩ ⟨by decide, by decide⟩ (s_zeq C0 (d_X8_giveBack_44) (by decide) hgz hgz (fun _ _ _ h => h) (s_aln C0 (d_X8_giveBack_47) hgz (s_gr C0 (j := 4) (c0 := 8) rfl gX8 (by decide) rfl rfl wg243 (d_X8_giveBack_48) hgz (s_iln C0 (d_X8_giveBack_51) hgz (s_ia C0 (d_X8_giveBack_52) hgz (s_iln C0 (d_X8_giveBack_53) hgz (s_cne C0 (d_X8_giveBack_54) (by decide) hgz hgz (fun _ _ _ h => h) (s_aln C0 (d_X8_giveBack_57) hgz (s_gr C0 (j := 4) (c0 := 8) rfl gX8 (by decide) rfl rfl wg243 (d_X8_giveBack_58) hgz (s_iln C0 (d_X8_giveBack_61) hgz (s_ic C0 (d_X8_giveBack_62) hgz (s_iax C0 (d_X8_giveBack_63) hgz (s_aln C0 (d_X8_giveBack_64) hgz (s_gr C0 (j := 2) (c0 := 8) rfl gX8 (by decide) rfl rfl wg239 (d_X8_giveBack_65) hgz (s_iln C0 (d_X8_giveBack_68) hgz (s_ia C0 (d_X8_giveBack_69) hgz (s_aln C0 (d_X8_giveBack_70) hgz (s_gm C0 (j := 1) (c0 := 8) rfl gX8 (by decide) rfl rfl wg238 (d_X8_giveBack_71) hgz (s_grN C0 (j := 2) (c0 := 5) rfl gX5 (by decide) rfl rfl wn178 (d_X8_giveBack_74) hgz (s_iln C0 (d_X8_giveBack_77) hgz (s_ia C0 (d_X8_giveBack_78) hgz (s_cne C0 (d_X8_giveBack_79) (by decide) hgz hgz (fun _ _ _ h => h) (s_aln C0 (d_X8_giveBack_82) hgz (s_gr C0 (j := 2) (c0 := 8) rfl gX8 (by decide) rfl rfl wg239 (d_X8_giveBack_83) hgz (s_iln C0 (d_X8_giveBack_86) hgz (s_aln C0 (d_X8_giveBack_87) hgz (s_iln C0 (d_X8_giveBack_88) hgz (s_callV C0 hE (c_X8_homeOf l) wg879 wg876 wg878 ws45 wg7 ⟨by decide, by decide⟩ (by decide +kernel) (c0 := 8) rfl ⟨by decide, by decide⟩ ⟨by decide, by decide⟩ (d_X8_giveBack_89) (fun x hx => (hno x hx).elim) ⟨by decide, by decide⟩ ⟨by decide, by decide⟩ (s_iax C0 (d_X8_giveBack_92) hgz (fun _ _ _ h => h))))))))))))))))))) (okn rfl))))))))))))))))))))))))))))))))),
  s_inc C0 (d_X8_giveBack_93) hgz (s_goto C0 (tgt := 2) (d_X8_giveBack_96) (by decide) hgz (fun _ _ _ h => h)),
  s_rv C0 hr (d_X8_giveBack_99) ⟨by decide, by decide⟩⟩
theorem c_X8_giveBack (l : Launch) : Ctr l yX8_giveBack cX8_giveBack 4 none 12 242 0 (fun sx => (nf G_X8_giveBack)) := ctr_of (by decide) gz gz ⟨rfl, rfl⟩ (fun p e s m args below meth c D ca ad sx sy A Q as M C0 hE hr hno hF => P_X8_giveBack (L_X8_giveBack C0 hE hr hno) hF)
theorem d_X8_comeIn_0 : decode cX8_comeIn 0 = .ok (.iconst 0, 1) := by decide +kernel
theorem d_X8_comeIn_1 : decode cX8_comeIn 1 = .ok (.istore_n 2, 1) := by decide +kernel
theorem d_X8_comeIn_2 : decode cX8_comeIn 2 = .ok (.iload_n 2, 1) := by decide +kernel
theorem d_X8_comeIn_3 : decode cX8_comeIn 3 = .ok (.aload_n 0, 1) := by decide +kernel
theorem d_X8_comeIn_4 : decode cX8_comeIn 4 = .ok (.getfield 12, 3) := by decide +kernel
theorem d_X8_comeIn_7 : decode cX8_comeIn 7 = .ok (.getfield 51, 3) := by decide +kernel
theorem d_X8_comeIn_10 : decode cX8_comeIn 10 = .ok (.if_icmp .ge 41, 3) := by decide +kernel
theorem d_X8_comeIn_13 : decode cX8_comeIn 13 = .ok (.aload_n 0, 1) := by decide +kernel
theorem d_X8_comeIn_14 : decode cX8_comeIn 14 = .ok (.getfield 25, 3) := by decide +kernel
theorem d_X8_comeIn_17 : decode cX8_comeIn 17 = .ok (.iload_n 2, 1) := by decide +kernel
theorem d_X8_comeIn_18 : decode cX8_comeIn 18 = .ok (.iaload, 1) := by decide +kernel
theorem d_X8_comeIn_19 : decode cX8_comeIn 19 = .ok (.bipush (-2), 2) := by decide +kernel
theorem d_X8_comeIn_21 : decode cX8_comeIn 21 = .ok (.if_icmp .ne 24, 3) := by decide +kernel
theorem d_X8_comeIn_24 : decode cX8_comeIn 24 = .ok (.aload_n 0, 1) := by decide +kernel
theorem d_X8_comeIn_25 : decode cX8_comeIn 25 = .ok (.getfield 29, 3) := by decide +kernel
theorem d_X8_comeIn_28 : decode cX8_comeIn 28 = .ok (.iload_n 2, 1) := by decide +kernel
theorem d_X8_comeIn_29 : decode cX8_comeIn 29 = .ok (.iaload, 1) := by decide +kernel
theorem d_X8_comeIn_30 : decode cX8_comeIn 30 = .ok (.iload_n 1, 1) := by decide +kernel
theorem d_X8_comeIn_31 : decode cX8_comeIn 31 = .ok (.if_icmp .ne 14, 3) := by decide +kernel
theorem d_X8_comeIn_34 : decode cX8_comeIn 34 = .ok (.aload_n 0, 1) := by decide +kernel
theorem d_X8_comeIn_35 : decode cX8_comeIn 35 = .ok (.getfield 25, 3) := by decide +kernel
theorem d_X8_comeIn_38 : decode cX8_comeIn 38 = .ok (.iload_n 2, 1) := by decide +kernel
theorem d_X8_comeIn_39 : decode cX8_comeIn 39 = .ok (.aload_n 0, 1) := by decide +kernel
theorem d_X8_comeIn_40 : decode cX8_comeIn 40 = .ok (.iload_n 2, 1) := by decide +kernel
theorem d_X8_comeIn_41 : decode cX8_comeIn 41 = .ok (.invokevirtual 89, 3) := by decide +kernel
theorem d_X8_comeIn_44 : decode cX8_comeIn 44 = .ok (.iastore, 1) := by decide +kernel
theorem d_X8_comeIn_45 : decode cX8_comeIn 45 = .ok (.iinc 2 1, 3) := by decide +kernel
theorem d_X8_comeIn_48 : decode cX8_comeIn 48 = .ok (.goto (-46), 3) := by decide +kernel
theorem d_X8_comeIn_51 : decode cX8_comeIn 51 = .ok (.return_, 1) := by decide +kernel
set_option maxRecDepth 100000 in
theorem L_X8_comeIn {p : Program} {l : Launch} {e : Env} {s : State} {m : MethodId} {args : Array Value} {below : List Frame} {meth : Method} {c : Code} {D : va_G} {ca : Nat → ClassId} {ad sx sy : Nat → Nat} {A : Nat → Prop} {Q : QT} (C0 : CX p s m args meth c cX8_comeIn 3 yX8_comeIn.cls D ca ad A) (hE : EX sx sy A s s.heap) (hr : meth.sig.returnType = none) (hno : ∀ x ∈ c.exceptionTable.toList, False) : R_X8_comeIn (JW p l e { frames := 12, cells := 0, slots := 6 * 0, locals := 242 } s m args below meth c 3 D ca ad A (vx_MQ below (Qn D ca ad A Q) (Qx D ca ad A Q) args s 0 (6 * 0) A) gz gz true) Q := ⟨s_ic C0 (d_X8_comeIn_0) hgz (s_isn C0 (d_X8_comeIn_1) hgz (fun _ _ _ h => h)) (okn rfl),
  s_iln C0 (d_X8_comeIn_2) hgz (s_aln C0 (d_X8_comeIn_3) hgz (s_gm C0 (j := 0) (c0 := 8) rfl gX8 (by decide) rfl rfl wg236 (d_X8_comeIn_4) hgz (s_giN C0 (j := 3) (c0 := 6) rfl gX6 (by decide) rfl (by decide) wn85 (d_X8_comeIn_7) hgz (s_cge C0 (d_X8_comeIn_10) (by decide) hgz hgz (fun _ _ _ h => h) (s_aln C0 (d_X8_comeIn_13) hgz (s_gr C0 (j := 2) (c0 := 8) rfl gX8 (by decide) rfl rfl wg239 (d_X8_comeIn_14) hgz (s_iln C0 (d_X8_comeIn_17) hgz (s_ia C0 (d_X8_comeIn_18) hgz (s_bi C0 (d_X8_comeIn_19) hgz (s_cne C0 (d_X8_comeIn_21) (by decide) hgz hgz (fun _ _ _ h => h) (s_aln C0 (d_X8_comeIn_24) hgz (s_gr C0 (j := 3) (c0 := 8) rfl gX8 (by decide) rfl rfl wg241 (d_X8_comeIn_25) hgz (s_iln C0 (d_X8_comeIn_28) hgz (s_ia C0 (d_X8_comeIn_29) hgz (s_iln C0 (d_X8_comeIn_30) hgz (s_cne C0 (d_X8_comeIn_31) (by decide) hgz hgz (fun _ _ _ h => h) (s_aln C0 (d_X8_comeIn_34) hgz (s_gr C0 (j := 2) (c0 := 8) rfl gX8 (by decide) rfl rfl wg239 (d_X8_comeIn_35) hgz (s_iln C0 (d_X8_comeIn_38) hgz (s_aln C0 (d_X8_comeIn_39) hgz (s_iln C0 (d_X8_comeIn_40) hgz (s_callV C0 hE (c_X8_homeOf l) wg879 wg876 wg878 ws45 wg7 ⟨by decide, by decide⟩ (by decide +kernel) (c0 := 8) rfl ⟨by decide, by decide⟩ ⟨by decide, by decide⟩ (d_X8_comeIn_41) (fun x hx => (hno x hx).elim) ⟨by decide, by decide⟩ ⟨by decide, by decide⟩ (s_iax C0 (d_X8_comeIn_44) hgz (fun _ _ _ h => h))))))))))))))) (okn rfl) rfl))))))))),
  s_inc C0 (d_X8_comeIn_45) hgz (s_goto C0 (tgt := 2) (d_X8_comeIn_48) (by decide) hgz (fun _ _ _ h => h)),
  s_rv C0 hr (d_X8_comeIn_51) ⟨by decide, by decide⟩⟩
theorem c_X8_comeIn (l : Launch) : Ctr l yX8_comeIn cX8_comeIn 3 none 12 242 0 (fun sx => (nf G_X8_comeIn)) := ctr_of (by decide) gz gz ⟨rfl, rfl⟩ (fun p e s m args below meth c D ca ad sx sy A Q as M C0 hE hr hno hF => P_X8_comeIn (L_X8_comeIn C0 hE hr hno) hF)
theorem wg71 : Cond.fieldLink "WeighedHall$Plan" 42 "WeighedHall$Plan" "persons" "I" ∈ GT := gt_mem 191 (by decide +kernel) rfl
theorem d_X6_hasPerson_0 : decode cX6_hasPerson 0 = .ok (.iload_n 1, 1) := by decide +kernel
theorem d_X6_hasPerson_1 : decode cX6_hasPerson 1 = .ok (.ifCond .lt 15, 3) := by decide +kernel
theorem d_X6_hasPerson_4 : decode cX6_hasPerson 4 = .ok (.iload_n 1, 1) := by decide +kernel
theorem d_X6_hasPerson_5 : decode cX6_hasPerson 5 = .ok (.aload_n 0, 1) := by decide +kernel
theorem d_X6_hasPerson_6 : decode cX6_hasPerson 6 = .ok (.getfield 42, 3) := by decide +kernel
theorem d_X6_hasPerson_9 : decode cX6_hasPerson 9 = .ok (.if_icmp .ge 7, 3) := by decide +kernel
theorem d_X6_hasPerson_12 : decode cX6_hasPerson 12 = .ok (.iconst 1, 1) := by decide +kernel
theorem d_X6_hasPerson_13 : decode cX6_hasPerson 13 = .ok (.goto 4, 3) := by decide +kernel
theorem d_X6_hasPerson_16 : decode cX6_hasPerson 16 = .ok (.iconst 0, 1) := by decide +kernel
theorem d_X6_hasPerson_17 : decode cX6_hasPerson 17 = .ok (.ireturn, 1) := by decide +kernel
set_option maxRecDepth 100000 in
theorem L_X6_hasPerson {p : Program} {l : Launch} {e : Env} {s : State} {m : MethodId} {args : Array Value} {below : List Frame} {meth : Method} {c : Code} {D : va_G} {ca : Nat → ClassId} {ad sx sy : Nat → Nat} {A : Nat → Prop} {Q : QT} (C0 : CX p s m args meth c cX6_hasPerson 2 yX6_hasPerson.cls D ca ad A) (hE : EX sx sy A s s.heap) (hr : meth.sig.returnType = (some .boolean)) (hno : ∀ x ∈ c.exceptionTable.toList, False) : R_X6_hasPerson (JW p l e { frames := 10, cells := 0, slots := 6 * 0, locals := 200 } s m args below meth c 2 D ca ad A (vx_MQ below (Qn D ca ad A Q) (Qx D ca ad A Q) args s 0 (6 * 0) A) gz gz true) Q := ⟨s_iln C0 (d_X6_hasPerson_0) hgz (s_zlt C0 (d_X6_hasPerson_1) (by decide) hgz hgz (fun _ _ _ h => h) (s_iln C0 (d_X6_hasPerson_4) hgz (s_aln C0 (d_X6_hasPerson_5) hgz (s_gi C0 (j := 0) (c0 := 6) rfl gX6 (by decide) rfl (by decide) wg71 (d_X6_hasPerson_6) hgz (s_cge C0 (d_X6_hasPerson_9) (by decide) hgz hgz (fun _ _ _ h => h) (s_ic C0 (d_X6_hasPerson_12) hgz (s_goto C0 (tgt := 17) (d_X6_hasPerson_13) (by decide) hgz (fun _ _ _ h => h)) (okn rfl))))))),
  s_ic C0 (d_X6_hasPerson_16) hgz (fun _ _ _ h => h) (okn rfl),
  s_rz C0 hr (d_X6_hasPerson_17) ⟨by decide, by decide⟩⟩
theorem c_X6_hasPerson (l : Launch) : Ctr l yX6_hasPerson cX6_hasPerson 2 (some .boolean) 10 200 0 (fun sx => (nf G_X6_hasPerson)) := ctr_of (by decide) gz gz ⟨rfl, rfl⟩ (fun p e s m args below meth c D ca ad sx sy A Q as M C0 hE hr hno hF => P_X6_hasPerson (L_X6_hasPerson C0 hE hr hno) hF)
theorem wn103 : Cond.fieldLinkNest "WeighedHall$Sitting" 118 "WeighedHall$Plan" "weight" "[I" "WeighedHall" ∈ NT := nt_mem 103 (by decide +kernel) rfl
theorem wg811 : Cond.code ⟨"WeighedHall$Plan", "hasPerson", "(I)Z"⟩ prog_8_method_12_code 2 (Option.some .boolean) ∈ GT := gt_mem 931 (by decide +kernel) rfl
theorem wn897 : Cond.methodLinkNest "WeighedHall$Sitting" 115 ⟨"WeighedHall$Plan", "hasPerson", "(I)Z"⟩ "WeighedHall" ∈ NT := nt_mem 897 (by decide +kernel) rfl
theorem wg810 : Cond.instanceMethod ⟨"WeighedHall$Plan", "hasPerson", "(I)Z"⟩ ∈ GT := gt_mem 930 (by decide +kernel) rfl
theorem ws36 : Cond.selects "WeighedHall$Plan" ⟨"WeighedHall$Plan", "hasPerson", "(I)Z"⟩ ⟨"WeighedHall$Plan", "hasPerson", "(I)Z"⟩ ∈ GT := gt_mem 36 (by decide +kernel) rfl
theorem d_X8_weighHolders_0 : decode cX8_weighHolders 0 = .ok (.iconst 0, 1) := by decide +kernel
theorem d_X8_weighHolders_1 : decode cX8_weighHolders 1 = .ok (.istore_n 1, 1) := by decide +kernel
theorem d_X8_weighHolders_2 : decode cX8_weighHolders 2 = .ok (.iload_n 1, 1) := by decide +kernel
theorem d_X8_weighHolders_3 : decode cX8_weighHolders 3 = .ok (.aload_n 0, 1) := by decide +kernel
theorem d_X8_weighHolders_4 : decode cX8_weighHolders 4 = .ok (.getfield 12, 3) := by decide +kernel
theorem d_X8_weighHolders_7 : decode cX8_weighHolders 7 = .ok (.getfield 61, 3) := by decide +kernel
theorem d_X8_weighHolders_10 : decode cX8_weighHolders 10 = .ok (.if_icmp .ge 16, 3) := by decide +kernel
theorem d_X8_weighHolders_13 : decode cX8_weighHolders 13 = .ok (.aload_n 0, 1) := by decide +kernel
theorem d_X8_weighHolders_14 : decode cX8_weighHolders 14 = .ok (.getfield 35, 3) := by decide +kernel
theorem d_X8_weighHolders_17 : decode cX8_weighHolders 17 = .ok (.iload_n 1, 1) := by decide +kernel
theorem d_X8_weighHolders_18 : decode cX8_weighHolders 18 = .ok (.iconst 0, 1) := by decide +kernel
theorem d_X8_weighHolders_19 : decode cX8_weighHolders 19 = .ok (.iastore, 1) := by decide +kernel
theorem d_X8_weighHolders_20 : decode cX8_weighHolders 20 = .ok (.iinc 1 1, 3) := by decide +kernel
theorem d_X8_weighHolders_23 : decode cX8_weighHolders 23 = .ok (.goto (-21), 3) := by decide +kernel
theorem d_X8_weighHolders_26 : decode cX8_weighHolders 26 = .ok (.iconst 0, 1) := by decide +kernel
theorem d_X8_weighHolders_27 : decode cX8_weighHolders 27 = .ok (.istore_n 1, 1) := by decide +kernel
theorem d_X8_weighHolders_28 : decode cX8_weighHolders 28 = .ok (.iload_n 1, 1) := by decide +kernel
theorem d_X8_weighHolders_29 : decode cX8_weighHolders 29 = .ok (.aload_n 0, 1) := by decide +kernel
theorem d_X8_weighHolders_30 : decode cX8_weighHolders 30 = .ok (.getfield 12, 3) := by decide +kernel
theorem d_X8_weighHolders_33 : decode cX8_weighHolders 33 = .ok (.getfield 51, 3) := by decide +kernel
theorem d_X8_weighHolders_36 : decode cX8_weighHolders 36 = .ok (.if_icmp .ge 48, 3) := by decide +kernel
theorem d_X8_weighHolders_39 : decode cX8_weighHolders 39 = .ok (.aload_n 0, 1) := by decide +kernel
theorem d_X8_weighHolders_40 : decode cX8_weighHolders 40 = .ok (.getfield 12, 3) := by decide +kernel
theorem d_X8_weighHolders_43 : decode cX8_weighHolders 43 = .ok (.aload_n 0, 1) := by decide +kernel
theorem d_X8_weighHolders_44 : decode cX8_weighHolders 44 = .ok (.getfield 25, 3) := by decide +kernel
theorem d_X8_weighHolders_47 : decode cX8_weighHolders 47 = .ok (.iload_n 1, 1) := by decide +kernel
theorem d_X8_weighHolders_48 : decode cX8_weighHolders 48 = .ok (.iaload, 1) := by decide +kernel
theorem d_X8_weighHolders_49 : decode cX8_weighHolders 49 = .ok (.invokevirtual 115, 3) := by decide +kernel
theorem d_X8_weighHolders_52 : decode cX8_weighHolders 52 = .ok (.ifCond .eq 26, 3) := by decide +kernel
theorem d_X8_weighHolders_55 : decode cX8_weighHolders 55 = .ok (.aload_n 0, 1) := by decide +kernel
theorem d_X8_weighHolders_56 : decode cX8_weighHolders 56 = .ok (.getfield 35, 3) := by decide +kernel
theorem d_X8_weighHolders_59 : decode cX8_weighHolders 59 = .ok (.aload_n 0, 1) := by decide +kernel
theorem d_X8_weighHolders_60 : decode cX8_weighHolders 60 = .ok (.getfield 25, 3) := by decide +kernel
theorem d_X8_weighHolders_63 : decode cX8_weighHolders 63 = .ok (.iload_n 1, 1) := by decide +kernel
theorem d_X8_weighHolders_64 : decode cX8_weighHolders 64 = .ok (.iaload, 1) := by decide +kernel
theorem d_X8_weighHolders_65 : decode cX8_weighHolders 65 = .ok (.dup2, 1) := by decide +kernel
theorem d_X8_weighHolders_66 : decode cX8_weighHolders 66 = .ok (.iaload, 1) := by decide +kernel
theorem d_X8_weighHolders_67 : decode cX8_weighHolders 67 = .ok (.aload_n 0, 1) := by decide +kernel
theorem d_X8_weighHolders_68 : decode cX8_weighHolders 68 = .ok (.getfield 12, 3) := by decide +kernel
theorem d_X8_weighHolders_71 : decode cX8_weighHolders 71 = .ok (.getfield 118, 3) := by decide +kernel
theorem d_X8_weighHolders_74 : decode cX8_weighHolders 74 = .ok (.iload_n 1, 1) := by decide +kernel
theorem d_X8_weighHolders_75 : decode cX8_weighHolders 75 = .ok (.iaload, 1) := by decide +kernel
theorem d_X8_weighHolders_76 : decode cX8_weighHolders 76 = .ok (.iadd, 1) := by decide +kernel
theorem d_X8_weighHolders_77 : decode cX8_weighHolders 77 = .ok (.iastore, 1) := by decide +kernel
theorem d_X8_weighHolders_78 : decode cX8_weighHolders 78 = .ok (.iinc 1 1, 3) := by decide +kernel
theorem d_X8_weighHolders_81 : decode cX8_weighHolders 81 = .ok (.goto (-53), 3) := by decide +kernel
theorem d_X8_weighHolders_84 : decode cX8_weighHolders 84 = .ok (.return_, 1) := by decide +kernel
set_option maxRecDepth 100000 in
theorem L_X8_weighHolders {p : Program} {l : Launch} {e : Env} {s : State} {m : MethodId} {args : Array Value} {below : List Frame} {meth : Method} {c : Code} {D : va_G} {ca : Nat → ClassId} {ad sx sy : Nat → Nat} {A : Nat → Prop} {Q : QT} (C0 : CX p s m args meth c cX8_weighHolders 2 yX8_weighHolders.cls D ca ad A) (hE : EX sx sy A s s.heap) (hr : meth.sig.returnType = none) (hno : ∀ x ∈ c.exceptionTable.toList, False) : R_X8_weighHolders (JW p l e { frames := 11, cells := 0, slots := 6 * 0, locals := 221 } s m args below meth c 2 D ca ad A (vx_MQ below (Qn D ca ad A Q) (Qx D ca ad A Q) args s 0 (6 * 0) A) gz gz true) Q := ⟨s_ic C0 (d_X8_weighHolders_0) hgz (s_isn C0 (d_X8_weighHolders_1) hgz (fun _ _ _ h => h)) (okn rfl),
  s_iln C0 (d_X8_weighHolders_2) hgz (s_aln C0 (d_X8_weighHolders_3) hgz (s_gm C0 (j := 0) (c0 := 8) rfl gX8 (by decide) rfl rfl wg236 (d_X8_weighHolders_4) hgz (s_giN C0 (j := 0) (c0 := 6) rfl gX6 (by decide) rfl (by decide) wn73 (d_X8_weighHolders_7) hgz (s_cge C0 (d_X8_weighHolders_10) (by decide) hgz hgz (fun _ _ _ h => h) (s_aln C0 (d_X8_weighHolders_13) hgz (s_gr C0 (j := 5) (c0 := 8) rfl gX8 (by decide) rfl rfl wg244 (d_X8_weighHolders_14) hgz (s_iln C0 (d_X8_weighHolders_17) hgz (s_ic C0 (d_X8_weighHolders_18) hgz (s_iax C0 (d_X8_weighHolders_19) hgz (s_inc C0 (d_X8_weighHolders_20) hgz (s_goto C0 (tgt := 2) (d_X8_weighHolders_23) (by decide) hgz (fun _ _ _ h => h)))) (okn rfl))))))))),
  s_ic C0 (d_X8_weighHolders_26) hgz (s_isn C0 (d_X8_weighHolders_27) hgz (fun _ _ _ h => h)) (okn rfl),
  s_iln C0 (d_X8_weighHolders_28) hgz (s_aln C0 (d_X8_weighHolders_29) hgz (s_gm C0 (j := 0) (c0 := 8) rfl gX8 (by decide) rfl rfl wg236 (d_X8_weighHolders_30) hgz (s_giN C0 (j := 3) (c0 := 6) rfl gX6 (by decide) rfl (by decide) wn85 (d_X8_weighHolders_33) hgz (s_cge C0 (d_X8_weighHolders_36) (by decide) hgz hgz (fun _ _ _ h => h) (s_aln C0 (d_X8_weighHolders_39) hgz (s_gm C0 (j := 0) (c0 := 8) rfl gX8 (by decide) rfl rfl wg236 (d_X8_weighHolders_40) hgz (s_aln C0 (d_X8_weighHolders_43) hgz (s_gr C0 (j := 2) (c0 := 8) rfl gX8 (by decide) rfl rfl wg239 (d_X8_weighHolders_44) hgz (s_iln C0 (d_X8_weighHolders_47) hgz (s_ia C0 (d_X8_weighHolders_48) hgz (s_callVN C0 hE (c_X6_hasPerson l) wg811 wn897 wg810 ws36 wg3 ⟨by decide, by decide⟩ (by decide +kernel) (c0 := 6) rfl ⟨by decide, by decide⟩ ⟨by decide, by decide⟩ (d_X8_weighHolders_49) (fun x hx => (hno x hx).elim) ⟨by decide, by decide⟩ ⟨by decide, by decide⟩ (s_zeq C0 (d_X8_weighHolders_52) (by decide) hgz hgz (fun _ _ _ h => h) (s_aln C0 (d_X8_weighHolders_55) hgz (s_gr C0 (j := 5) (c0 := 8) rfl gX8 (by decide) rfl rfl wg244 (d_X8_weighHolders_56) hgz (s_aln C0 (d_X8_weighHolders_59) hgz (s_gr C0 (j := 2) (c0 := 8) rfl gX8 (by decide) rfl rfl wg239 (d_X8_weighHolders_60) hgz (s_iln C0 (d_X8_weighHolders_63) hgz (s_ia C0 (d_X8_weighHolders_64) hgz (s_dup2 C0 (d_X8_weighHolders_65) hgz (s_ia C0 (d_X8_weighHolders_66) hgz (s_aln C0 (d_X8_weighHolders_67) hgz (s_gm C0 (j := 0) (c0 := 8) rfl gX8 (by decide) rfl rfl wg236 (d_X8_weighHolders_68) hgz (s_grN C0 (j := 5) (c0 := 6) rfl gX6 (by decide) rfl rfl wn103 (d_X8_weighHolders_71) hgz (s_iln C0 (d_X8_weighHolders_74) hgz (s_ia C0 (d_X8_weighHolders_75) hgz (s_add C0 (d_X8_weighHolders_76) hgz (s_iax C0 (d_X8_weighHolders_77) hgz (fun _ _ _ h => h)))))))))))))))))))))))))))),
  s_inc C0 (d_X8_weighHolders_78) hgz (s_goto C0 (tgt := 28) (d_X8_weighHolders_81) (by decide) hgz (fun _ _ _ h => h)),
  s_rv C0 hr (d_X8_weighHolders_84) ⟨by decide, by decide⟩⟩
theorem c_X8_weighHolders (l : Launch) : Ctr l yX8_weighHolders cX8_weighHolders 2 none 11 221 0 (fun sx => (nf G_X8_weighHolders)) := ctr_of (by decide) gz gz ⟨rfl, rfl⟩ (fun p e s m args below meth c D ca ad sx sy A Q as M C0 hE hr hno hF => P_X8_weighHolders (L_X8_weighHolders C0 hE hr hno) hF)
theorem d_X8_dropAllOf_0 : decode cX8_dropAllOf 0 = .ok (.aload_n 0, 1) := by decide +kernel
theorem d_X8_dropAllOf_1 : decode cX8_dropAllOf 1 = .ok (.getfield 35, 3) := by decide +kernel
theorem d_X8_dropAllOf_4 : decode cX8_dropAllOf 4 = .ok (.iload_n 1, 1) := by decide +kernel
theorem d_X8_dropAllOf_5 : decode cX8_dropAllOf 5 = .ok (.iconst 0, 1) := by decide +kernel
theorem d_X8_dropAllOf_6 : decode cX8_dropAllOf 6 = .ok (.iastore, 1) := by decide +kernel
theorem d_X8_dropAllOf_7 : decode cX8_dropAllOf 7 = .ok (.iconst 0, 1) := by decide +kernel
theorem d_X8_dropAllOf_8 : decode cX8_dropAllOf 8 = .ok (.istore_n 2, 1) := by decide +kernel
theorem d_X8_dropAllOf_9 : decode cX8_dropAllOf 9 = .ok (.iload_n 2, 1) := by decide +kernel
theorem d_X8_dropAllOf_10 : decode cX8_dropAllOf 10 = .ok (.aload_n 0, 1) := by decide +kernel
theorem d_X8_dropAllOf_11 : decode cX8_dropAllOf 11 = .ok (.getfield 12, 3) := by decide +kernel
theorem d_X8_dropAllOf_14 : decode cX8_dropAllOf 14 = .ok (.getfield 51, 3) := by decide +kernel
theorem d_X8_dropAllOf_17 : decode cX8_dropAllOf 17 = .ok (.if_icmp .ge 26, 3) := by decide +kernel
theorem d_X8_dropAllOf_20 : decode cX8_dropAllOf 20 = .ok (.aload_n 0, 1) := by decide +kernel
theorem d_X8_dropAllOf_21 : decode cX8_dropAllOf 21 = .ok (.getfield 25, 3) := by decide +kernel
theorem d_X8_dropAllOf_24 : decode cX8_dropAllOf 24 = .ok (.iload_n 2, 1) := by decide +kernel
theorem d_X8_dropAllOf_25 : decode cX8_dropAllOf 25 = .ok (.iaload, 1) := by decide +kernel
theorem d_X8_dropAllOf_26 : decode cX8_dropAllOf 26 = .ok (.iload_n 1, 1) := by decide +kernel
theorem d_X8_dropAllOf_27 : decode cX8_dropAllOf 27 = .ok (.if_icmp .ne 10, 3) := by decide +kernel
theorem d_X8_dropAllOf_30 : decode cX8_dropAllOf 30 = .ok (.aload_n 0, 1) := by decide +kernel
theorem d_X8_dropAllOf_31 : decode cX8_dropAllOf 31 = .ok (.getfield 25, 3) := by decide +kernel
theorem d_X8_dropAllOf_34 : decode cX8_dropAllOf 34 = .ok (.iload_n 2, 1) := by decide +kernel
theorem d_X8_dropAllOf_35 : decode cX8_dropAllOf 35 = .ok (.iconst (-1), 1) := by decide +kernel
theorem d_X8_dropAllOf_36 : decode cX8_dropAllOf 36 = .ok (.iastore, 1) := by decide +kernel
theorem d_X8_dropAllOf_37 : decode cX8_dropAllOf 37 = .ok (.iinc 2 1, 3) := by decide +kernel
theorem d_X8_dropAllOf_40 : decode cX8_dropAllOf 40 = .ok (.goto (-31), 3) := by decide +kernel
theorem d_X8_dropAllOf_43 : decode cX8_dropAllOf 43 = .ok (.return_, 1) := by decide +kernel
set_option maxRecDepth 100000 in
theorem L_X8_dropAllOf {p : Program} {l : Launch} {e : Env} {s : State} {m : MethodId} {args : Array Value} {below : List Frame} {meth : Method} {c : Code} {D : va_G} {ca : Nat → ClassId} {ad sx sy : Nat → Nat} {A : Nat → Prop} {Q : QT} (C0 : CX p s m args meth c cX8_dropAllOf 3 yX8_dropAllOf.cls D ca ad A) (hE : EX sx sy A s s.heap) (hr : meth.sig.returnType = none) (hno : ∀ x ∈ c.exceptionTable.toList, False) : R_X8_dropAllOf (JW p l e { frames := 10, cells := 0, slots := 6 * 0, locals := 200 } s m args below meth c 3 D ca ad A (vx_MQ below (Qn D ca ad A Q) (Qx D ca ad A Q) args s 0 (6 * 0) A) gz gz true) Q := ⟨s_aln C0 (d_X8_dropAllOf_0) hgz (s_gr C0 (j := 5) (c0 := 8) rfl gX8 (by decide) rfl rfl wg244 (d_X8_dropAllOf_1) hgz (s_iln C0 (d_X8_dropAllOf_4) hgz (s_ic C0 (d_X8_dropAllOf_5) hgz (s_iax C0 (d_X8_dropAllOf_6) hgz (s_ic C0 (d_X8_dropAllOf_7) hgz (s_isn C0 (d_X8_dropAllOf_8) hgz (fun _ _ _ h => h)) (okn rfl))) (okn rfl)))),
  s_iln C0 (d_X8_dropAllOf_9) hgz (s_aln C0 (d_X8_dropAllOf_10) hgz (s_gm C0 (j := 0) (c0 := 8) rfl gX8 (by decide) rfl rfl wg236 (d_X8_dropAllOf_11) hgz (s_giN C0 (j := 3) (c0 := 6) rfl gX6 (by decide) rfl (by decide) wn85 (d_X8_dropAllOf_14) hgz (s_cge C0 (d_X8_dropAllOf_17) (by decide) hgz hgz (fun _ _ _ h => h) (s_aln C0 (d_X8_dropAllOf_20) hgz (s_gr C0 (j := 2) (c0 := 8) rfl gX8 (by decide) rfl rfl wg239 (d_X8_dropAllOf_21) hgz (s_iln C0 (d_X8_dropAllOf_24) hgz (s_ia C0 (d_X8_dropAllOf_25) hgz (s_iln C0 (d_X8_dropAllOf_26) hgz (s_cne C0 (d_X8_dropAllOf_27) (by decide) hgz hgz (fun _ _ _ h => h) (s_aln C0 (d_X8_dropAllOf_30) hgz (s_gr C0 (j := 2) (c0 := 8) rfl gX8 (by decide) rfl rfl wg239 (d_X8_dropAllOf_31) hgz (s_iln C0 (d_X8_dropAllOf_34) hgz (s_ic C0 (d_X8_dropAllOf_35) hgz (s_iax C0 (d_X8_dropAllOf_36) hgz (fun _ _ _ h => h)) (okn rfl))))))))))))))),
  s_inc C0 (d_X8_dropAllOf_37) hgz (s_goto C0 (tgt := 9) (d_X8_dropAllOf_40) (by decide) hgz (fun _ _ _ h => h)),
  s_rv C0 hr (d_X8_dropAllOf_43) ⟨by decide, by decide⟩⟩
theorem c_X8_dropAllOf (l : Launch) : Ctr l yX8_dropAllOf cX8_dropAllOf 3 none 10 200 0 (fun sx => (nf G_X8_dropAllOf)) := ctr_of (by decide) gz gz ⟨rfl, rfl⟩ (fun p e s m args below meth c D ca ad sx sy A Q as M C0 hE hr hno hF => P_X8_dropAllOf (L_X8_dropAllOf C0 hE hr hno) hF)
theorem wg905 : Cond.code ⟨"WeighedHall$Sitting", "dropAllOf", "(I)V"⟩ prog_10_method_10_code 3 (Option.none : Option FieldType) ∈ GT := gt_mem 1025 (by decide +kernel) rfl
theorem wg902 : Cond.methodLink "WeighedHall$Sitting" 121 ⟨"WeighedHall$Sitting", "dropAllOf", "(I)V"⟩ ∈ GT := gt_mem 1022 (by decide +kernel) rfl
theorem wg904 : Cond.instanceMethod ⟨"WeighedHall$Sitting", "dropAllOf", "(I)V"⟩ ∈ GT := gt_mem 1024 (by decide +kernel) rfl
theorem ws51 : Cond.selects "WeighedHall$Sitting" ⟨"WeighedHall$Sitting", "dropAllOf", "(I)V"⟩ ⟨"WeighedHall$Sitting", "dropAllOf", "(I)V"⟩ ∈ GT := gt_mem 51 (by decide +kernel) rfl
theorem d_X8_tire_0 : decode cX8_tire 0 = .ok (.iconst 0, 1) := by decide +kernel
theorem d_X8_tire_1 : decode cX8_tire 1 = .ok (.istore_n 2, 1) := by decide +kernel
theorem d_X8_tire_2 : decode cX8_tire 2 = .ok (.iload_n 2, 1) := by decide +kernel
theorem d_X8_tire_3 : decode cX8_tire 3 = .ok (.aload_n 0, 1) := by decide +kernel
theorem d_X8_tire_4 : decode cX8_tire 4 = .ok (.getfield 12, 3) := by decide +kernel
theorem d_X8_tire_7 : decode cX8_tire 7 = .ok (.getfield 61, 3) := by decide +kernel
theorem d_X8_tire_10 : decode cX8_tire 10 = .ok (.if_icmp .ge 55, 3) := by decide +kernel
theorem d_X8_tire_13 : decode cX8_tire 13 = .ok (.aload_n 0, 1) := by decide +kernel
theorem d_X8_tire_14 : decode cX8_tire 14 = .ok (.getfield 38, 3) := by decide +kernel
theorem d_X8_tire_17 : decode cX8_tire 17 = .ok (.iload_n 2, 1) := by decide +kernel
theorem d_X8_tire_18 : decode cX8_tire 18 = .ok (.dup2, 1) := by decide +kernel
theorem d_X8_tire_19 : decode cX8_tire 19 = .ok (.iaload, 1) := by decide +kernel
theorem d_X8_tire_20 : decode cX8_tire 20 = .ok (.aload_n 0, 1) := by decide +kernel
theorem d_X8_tire_21 : decode cX8_tire 21 = .ok (.getfield 35, 3) := by decide +kernel
theorem d_X8_tire_24 : decode cX8_tire 24 = .ok (.iload_n 2, 1) := by decide +kernel
theorem d_X8_tire_25 : decode cX8_tire 25 = .ok (.iaload, 1) := by decide +kernel
theorem d_X8_tire_26 : decode cX8_tire 26 = .ok (.isub, 1) := by decide +kernel
theorem d_X8_tire_27 : decode cX8_tire 27 = .ok (.iastore, 1) := by decide +kernel
theorem d_X8_tire_28 : decode cX8_tire 28 = .ok (.aload_n 0, 1) := by decide +kernel
theorem d_X8_tire_29 : decode cX8_tire 29 = .ok (.getfield 38, 3) := by decide +kernel
theorem d_X8_tire_32 : decode cX8_tire 32 = .ok (.iload_n 2, 1) := by decide +kernel
theorem d_X8_tire_33 : decode cX8_tire 33 = .ok (.iaload, 1) := by decide +kernel
theorem d_X8_tire_34 : decode cX8_tire 34 = .ok (.ifCond .ge 25, 3) := by decide +kernel
theorem d_X8_tire_37 : decode cX8_tire 37 = .ok (.aload_n 0, 1) := by decide +kernel
theorem d_X8_tire_38 : decode cX8_tire 38 = .ok (.getfield 41, 3) := by decide +kernel
theorem d_X8_tire_41 : decode cX8_tire 41 = .ok (.iload_n 2, 1) := by decide +kernel
theorem d_X8_tire_42 : decode cX8_tire 42 = .ok (.iaload, 1) := by decide +kernel
theorem d_X8_tire_43 : decode cX8_tire 43 = .ok (.iconst (-1), 1) := by decide +kernel
theorem d_X8_tire_44 : decode cX8_tire 44 = .ok (.if_icmp .ne 15, 3) := by decide +kernel
theorem d_X8_tire_47 : decode cX8_tire 47 = .ok (.aload_n 0, 1) := by decide +kernel
theorem d_X8_tire_48 : decode cX8_tire 48 = .ok (.getfield 41, 3) := by decide +kernel
theorem d_X8_tire_51 : decode cX8_tire 51 = .ok (.iload_n 2, 1) := by decide +kernel
theorem d_X8_tire_52 : decode cX8_tire 52 = .ok (.iload_n 1, 1) := by decide +kernel
theorem d_X8_tire_53 : decode cX8_tire 53 = .ok (.iastore, 1) := by decide +kernel
theorem d_X8_tire_54 : decode cX8_tire 54 = .ok (.aload_n 0, 1) := by decide +kernel
theorem d_X8_tire_55 : decode cX8_tire 55 = .ok (.iload_n 2, 1) := by decide +kernel
theorem d_X8_tire_56 : decode cX8_tire 56 = .ok (.invokevirtual 121, 3) := by decide +kernel
theorem d_X8_tire_59 : decode cX8_tire 59 = .ok (.iinc 2 1, 3) := by decide +kernel
theorem d_X8_tire_62 : decode cX8_tire 62 = .ok (.goto (-60), 3) := by decide +kernel
theorem d_X8_tire_65 : decode cX8_tire 65 = .ok (.return_, 1) := by decide +kernel
set_option maxRecDepth 100000 in
theorem L_X8_tire {p : Program} {l : Launch} {e : Env} {s : State} {m : MethodId} {args : Array Value} {below : List Frame} {meth : Method} {c : Code} {D : va_G} {ca : Nat → ClassId} {ad sx sy : Nat → Nat} {A : Nat → Prop} {Q : QT} (C0 : CX p s m args meth c cX8_tire 3 yX8_tire.cls D ca ad A) (hE : EX sx sy A s s.heap) (hr : meth.sig.returnType = none) (hno : ∀ x ∈ c.exceptionTable.toList, False) : R_X8_tire (JW p l e { frames := 11, cells := 0, slots := 6 * 0, locals := 222 } s m args below meth c 3 D ca ad A (vx_MQ below (Qn D ca ad A Q) (Qx D ca ad A Q) args s 0 (6 * 0) A) gz gz true) Q := ⟨s_ic C0 (d_X8_tire_0) hgz (s_isn C0 (d_X8_tire_1) hgz (fun _ _ _ h => h)) (okn rfl),
  s_iln C0 (d_X8_tire_2) hgz (s_aln C0 (d_X8_tire_3) hgz (s_gm C0 (j := 0) (c0 := 8) rfl gX8 (by decide) rfl rfl wg236 (d_X8_tire_4) hgz (s_giN C0 (j := 0) (c0 := 6) rfl gX6 (by decide) rfl (by decide) wn73 (d_X8_tire_7) hgz (s_cge C0 (d_X8_tire_10) (by decide) hgz hgz (fun _ _ _ h => h) (s_aln C0 (d_X8_tire_13) hgz (s_gr C0 (j := 6) (c0 := 8) rfl gX8 (by decide) rfl rfl wg245 (d_X8_tire_14) hgz (s_iln C0 (d_X8_tire_17) hgz (s_dup2 C0 (d_X8_tire_18) hgz (s_ia C0 (d_X8_tire_19) hgz (s_aln C0 (d_X8_tire_20) hgz (s_gr C0 (j := 5) (c0 := 8) rfl gX8 (by decide) rfl rfl wg244 (d_X8_tire_21) hgz (s_iln C0 (d_X8_tire_24) hgz (s_ia C0 (d_X8_tire_25) hgz (s_sub C0 (d_X8_tire_26) hgz (s_iax C0 (d_X8_tire_27) hgz (s_aln C0 (d_X8_tire_28) hgz (s_gr C0 (j := 6) (c0 := 8) rfl gX8 (by decide) rfl rfl wg245 (d_X8_tire_29) hgz (s_iln C0 (d_X8_tire_32) hgz (s_ia C0 (d_X8_tire_33) hgz (s_zge C0 (d_X8_tire_34) (by decide) hgz hgz (fun _ _ _ h => h) (s_aln C0 (d_X8_tire_37) hgz (s_gr C0 (j := 7) (c0 := 8) rfl gX8 (by decide) rfl rfl wg247 (d_X8_tire_38) hgz (s_iln C0 (d_X8_tire_41) hgz (s_ia C0 (d_X8_tire_42) hgz (s_ic C0 (d_X8_tire_43) hgz (s_cne C0 (d_X8_tire_44) (by decide) hgz hgz (fun _ _ _ h => h) (s_aln C0 (d_X8_tire_47) hgz (s_gr C0 (j := 7) (c0 := 8) rfl gX8 (by decide) rfl rfl wg247 (d_X8_tire_48) hgz (s_iln C0 (d_X8_tire_51) hgz (s_iln C0 (d_X8_tire_52) hgz (s_iax C0 (d_X8_tire_53) hgz (s_aln C0 (d_X8_tire_54) hgz (s_iln C0 (d_X8_tire_55) hgz (s_callV C0 hE (c_X8_dropAllOf l) wg905 wg902 wg904 ws51 wg7 ⟨by decide, by decide⟩ (by decide +kernel) (c0 := 8) rfl ⟨by decide, by decide⟩ ⟨by decide, by decide⟩ (d_X8_tire_56) (fun x hx => (hno x hx).elim) ⟨by decide, by decide⟩ ⟨by decide, by decide⟩ (fun _ _ _ h => h)))))))))) (okn rfl)))))))))))))))))))))))))),
  s_inc C0 (d_X8_tire_59) hgz (s_goto C0 (tgt := 2) (d_X8_tire_62) (by decide) hgz (fun _ _ _ h => h)),
  s_rv C0 hr (d_X8_tire_65) ⟨by decide, by decide⟩⟩
theorem c_X8_tire (l : Launch) : Ctr l yX8_tire cX8_tire 3 none 11 222 0 (fun sx => (nf G_X8_tire)) := ctr_of (by decide) gz gz ⟨rfl, rfl⟩ (fun p e s m args below meth c D ca ad sx sy A Q as M C0 hE hr hno hF => P_X8_tire (L_X8_tire C0 hE hr hno) hF)
theorem wn180 : Cond.fieldLinkNest "WeighedHall$Sitting" 109 "WeighedHall$Loans" "from" "[I" "WeighedHall" ∈ NT := nt_mem 180 (by decide +kernel) rfl
theorem d_X8_giveAway_0 : decode cX8_giveAway 0 = .ok (.iconst 0, 1) := by decide +kernel
theorem d_X8_giveAway_1 : decode cX8_giveAway 1 = .ok (.istore_n 2, 1) := by decide +kernel
theorem d_X8_giveAway_2 : decode cX8_giveAway 2 = .ok (.iload_n 2, 1) := by decide +kernel
theorem d_X8_giveAway_3 : decode cX8_giveAway 3 = .ok (.aload_n 0, 1) := by decide +kernel
theorem d_X8_giveAway_4 : decode cX8_giveAway 4 = .ok (.getfield 21, 3) := by decide +kernel
theorem d_X8_giveAway_7 : decode cX8_giveAway 7 = .ok (.getfield 93, 3) := by decide +kernel
theorem d_X8_giveAway_10 : decode cX8_giveAway 10 = .ok (.if_icmp .ge 99, 3) := by decide +kernel
theorem d_X8_giveAway_13 : decode cX8_giveAway 13 = .ok (.aload_n 0, 1) := by decide +kernel
theorem d_X8_giveAway_14 : decode cX8_giveAway 14 = .ok (.getfield 21, 3) := by decide +kernel
theorem d_X8_giveAway_17 : decode cX8_giveAway 17 = .ok (.getfield 96, 3) := by decide +kernel
theorem d_X8_giveAway_20 : decode cX8_giveAway 20 = .ok (.iload_n 2, 1) := by decide +kernel
theorem d_X8_giveAway_21 : decode cX8_giveAway 21 = .ok (.iaload, 1) := by decide +kernel
theorem d_X8_giveAway_22 : decode cX8_giveAway 22 = .ok (.istore_n 3, 1) := by decide +kernel
theorem d_X8_giveAway_23 : decode cX8_giveAway 23 = .ok (.aload_n 0, 1) := by decide +kernel
theorem d_X8_giveAway_24 : decode cX8_giveAway 24 = .ok (.getfield 21, 3) := by decide +kernel
theorem d_X8_giveAway_27 : decode cX8_giveAway 27 = .ok (.getfield 109, 3) := by decide +kernel
theorem d_X8_giveAway_30 : decode cX8_giveAway 30 = .ok (.iload_n 2, 1) := by decide +kernel
theorem d_X8_giveAway_31 : decode cX8_giveAway 31 = .ok (.iaload, 1) := by decide +kernel
theorem d_X8_giveAway_32 : decode cX8_giveAway 32 = .ok (.iload_n 1, 1) := by decide +kernel
theorem d_X8_giveAway_33 : decode cX8_giveAway 33 = .ok (.if_icmp .ne 70, 3) := by decide +kernel
theorem d_X8_giveAway_36 : decode cX8_giveAway 36 = .ok (.aload_n 0, 1) := by decide +kernel
theorem d_X8_giveAway_37 : decode cX8_giveAway 37 = .ok (.getfield 12, 3) := by decide +kernel
theorem d_X8_giveAway_40 : decode cX8_giveAway 40 = .ok (.iload_n 3, 1) := by decide +kernel
theorem d_X8_giveAway_41 : decode cX8_giveAway 41 = .ok (.invokevirtual 102, 3) := by decide +kernel
theorem d_X8_giveAway_44 : decode cX8_giveAway 44 = .ok (.ifCond .eq 59, 3) := by decide +kernel
theorem d_X8_giveAway_47 : decode cX8_giveAway 47 = .ok (.aload_n 0, 1) := by decide +kernel
theorem d_X8_giveAway_48 : decode cX8_giveAway 48 = .ok (.getfield 25, 3) := by decide +kernel
theorem d_X8_giveAway_51 : decode cX8_giveAway 51 = .ok (.iload_n 3, 1) := by decide +kernel
theorem d_X8_giveAway_52 : decode cX8_giveAway 52 = .ok (.iaload, 1) := by decide +kernel
theorem d_X8_giveAway_53 : decode cX8_giveAway 53 = .ok (.aload_n 0, 1) := by decide +kernel
theorem d_X8_giveAway_54 : decode cX8_giveAway 54 = .ok (.getfield 12, 3) := by decide +kernel
theorem d_X8_giveAway_57 : decode cX8_giveAway 57 = .ok (.getfield 58, 3) := by decide +kernel
theorem d_X8_giveAway_60 : decode cX8_giveAway 60 = .ok (.iload_n 3, 1) := by decide +kernel
theorem d_X8_giveAway_61 : decode cX8_giveAway 61 = .ok (.iaload, 1) := by decide +kernel
theorem d_X8_giveAway_62 : decode cX8_giveAway 62 = .ok (.if_icmp .ne 41, 3) := by decide +kernel
theorem d_X8_giveAway_65 : decode cX8_giveAway 65 = .ok (.aload_n 0, 1) := by decide +kernel
theorem d_X8_giveAway_66 : decode cX8_giveAway 66 = .ok (.aload_n 0, 1) := by decide +kernel
theorem d_X8_giveAway_67 : decode cX8_giveAway 67 = .ok (.getfield 21, 3) := by decide +kernel
theorem d_X8_giveAway_70 : decode cX8_giveAway 70 = .ok (.getfield 106, 3) := by decide +kernel
theorem d_X8_giveAway_73 : decode cX8_giveAway 73 = .ok (.iload_n 2, 1) := by decide +kernel
theorem d_X8_giveAway_74 : decode cX8_giveAway 74 = .ok (.iaload, 1) := by decide +kernel
theorem d_X8_giveAway_75 : decode cX8_giveAway 75 = .ok (.invokevirtual 112, 3) := by decide +kernel
theorem d_X8_giveAway_78 : decode cX8_giveAway 78 = .ok (.ifCond .ne 25, 3) := by decide +kernel
theorem d_X8_giveAway_81 : decode cX8_giveAway 81 = .ok (.aload_n 0, 1) := by decide +kernel
theorem d_X8_giveAway_82 : decode cX8_giveAway 82 = .ok (.getfield 25, 3) := by decide +kernel
theorem d_X8_giveAway_85 : decode cX8_giveAway 85 = .ok (.iload_n 3, 1) := by decide +kernel
theorem d_X8_giveAway_86 : decode cX8_giveAway 86 = .ok (.aload_n 0, 1) := by decide +kernel
theorem d_X8_giveAway_87 : decode cX8_giveAway 87 = .ok (.getfield 21, 3) := by decide +kernel
theorem d_X8_giveAway_90 : decode cX8_giveAway 90 = .ok (.getfield 106, 3) := by decide +kernel
theorem d_X8_giveAway_93 : decode cX8_giveAway 93 = .ok (.iload_n 2, 1) := by decide +kernel
theorem d_X8_giveAway_94 : decode cX8_giveAway 94 = .ok (.iaload, 1) := by decide +kernel
theorem d_X8_giveAway_95 : decode cX8_giveAway 95 = .ok (.iastore, 1) := by decide +kernel
theorem d_X8_giveAway_96 : decode cX8_giveAway 96 = .ok (.aload_n 0, 1) := by decide +kernel
theorem d_X8_giveAway_97 : decode cX8_giveAway 97 = .ok (.getfield 32, 3) := by decide +kernel
theorem d_X8_giveAway_100 : decode cX8_giveAway 100 = .ok (.iload_n 3, 1) := by decide +kernel
theorem d_X8_giveAway_101 : decode cX8_giveAway 101 = .ok (.iload_n 2, 1) := by decide +kernel
theorem d_X8_giveAway_102 : decode cX8_giveAway 102 = .ok (.iastore, 1) := by decide +kernel
theorem d_X8_giveAway_103 : decode cX8_giveAway 103 = .ok (.iinc 2 1, 3) := by decide +kernel
theorem d_X8_giveAway_106 : decode cX8_giveAway 106 = .ok (.goto (-104), 3) := by decide +kernel
theorem d_X8_giveAway_109 : decode cX8_giveAway 109 = .ok (.return_, 1) := by decide +kernel
set_option maxRecDepth 100000 in
theorem L_X8_giveAway {p : Program} {l : Launch} {e : Env} {s : State} {m : MethodId} {args : Array Value} {below : List Frame} {meth : Method} {c : Code} {D : va_G} {ca : Nat → ClassId} {ad sx sy : Nat → Nat} {A : Nat → Prop} {Q : QT} (C0 : CX p s m args meth c cX8_giveAway 4 yX8_giveAway.cls D ca ad A) (hE : EX sx sy A s s.heap) (hr : meth.sig.returnType = none) (hno : ∀ x ∈ c.exceptionTable.toList, False) : R_X8_giveAway (JW p l e { frames := 11, cells := 0, slots := 6 * 0, locals := 221 } s m args below meth c 4 D ca ad A (vx_MQ below (Qn D ca ad A Q) (Qx D ca ad A Q) args s 0 (6 * 0) A) gz gz true) Q := ⟨s_ic C0 (d_X8_giveAway_0) hgz (s_isn C0 (d_X8_giveAway_1) hgz (fun _ _ _ h => h)) (okn rfl),
  s_iln C0 (d_X8_giveAway_2) hgz (s_aln C0 (d_X8_giveAway_3) hgz (s_gm C0 (j := 1) (c0 := 8) rfl gX8 (by decide) rfl rfl wg238 (d_X8_giveAway_4) hgz (s_giN C0 (j := 0) (c0 := 5) rfl gX5 (by decide) rfl (by decide) wn174 (d_X8_giveAway_7) hgz (s_cge C0 (d_X8_giveAway_10) (by decide) hgz hgz (fun _ _ _ h => h) (s_aln C0 (d_X8_giveAway_13) hgz (s_gm C0 (j := 1) (c0 := 8) rfl gX8 (by decide) rfl rfl wg238 (d_X8_giveAway_14) hgz (s_grN C0 (j := 1) (c0 := 5) rfl gX5 (by decide) rfl rfl wn176 (d_X8_giveAway_17) hgz (s_iln C0 (d_X8_giveAway_20) hgz (s_ia C0 (d_X8_giveAway_21) hgz (s_isn C0 (d_X8_giveAway_22) hgz (s_aln C0 (d_X8_giveAway_23) hgz (s_gm C0 (j := 1) (c0 := 8) rfl gX8 (by decide) rfl rfl wg238 (d_X8_giveAway_24) hgz (s_grN C0 (j := 3) (c0 := 5) rfl gX5 (by decide) rfl rfl wn180 (d_X8_giveAway_27) hgz (s_iln C0 (d_X8_giveAway_30) hgz (s_ia C0 (d_X8_giveAway_31) hgz (s_iln C0 (d_X8_giveAway_32) hgz (s_cne C0 (d_X8_giveAway_33) (by decide) hgz hgz (fun _ _ _ h => h) (s_aln C0 (d_X8_giveAway_36) hgz (s_gm C0 (j := 0) (c0 := 8) rfl gX8 (by decide) rfl rfl wg236 (d_X8_giveAway_37) hgz (s_iln C0 (d_X8_giveAway_40) hgz (s_callVN C0 hE (c_X6_hasThing l) wg791 wn888 wg790 ws35 wg3 ⟨by decide, by decide⟩ (by decide +kernel) (c0 := 6) rfl ⟨by decide, by decide⟩ ⟨by decide, by decide⟩ (d_X8_giveAway_41) (fun x hx => (hno x hx).elim) ⟨by decide, by decide⟩ ⟨by decide, by decide⟩ (s_zeq C0 (d_X8_giveAway_44) (by decide) hgz hgz (fun _ _ _ h => h) (s_aln C0 (d_X8_giveAway_47) hgz (s_gr C0 (j := 2) (c0 := 8) rfl gX8 (by decide) rfl rfl wg239 (d_X8_giveAway_48) hgz (s_iln C0 (d_X8_giveAway_51) hgz (s_ia C0 (d_X8_giveAway_52) hgz (s_aln C0 (d_X8_giveAway_53) hgz (s_gm C0 (j := 0) (c0 := 8) rfl gX8 (by decide) rfl rfl wg236 (d_X8_giveAway_54) hgz (s_grN C0 (j := 4) (c0 := 6) rfl gX6 (by decide) rfl rfl wn93 (d_X8_giveAway_57) hgz (s_iln C0 (d_X8_giveAway_60) hgz (s_ia C0 (d_X8_giveAway_61) hgz (s_cne C0 (d_X8_giveAway_62) (by decide) hgz hgz (fun _ _ _ h => h) (s_aln C0 (d_X8_giveAway_65) hgz (s_aln C0 (d_X8_giveAway_66) hgz (s_gm C0 (j := 1) (c0 := 8) rfl gX8 (by decide) rfl rfl wg238 (d_X8_giveAway_67) hgz (s_grN C0 (j := 2) (c0 := 5) rfl gX5 (by decide) rfl rfl wn178 (d_X8_giveAway_70) hgz (s_iln C0 (d_X8_giveAway_73) hgz (s_ia C0 (d_X8_giveAway_74) hgz (s_callV C0 hE (c_X8_isSpent l) wg883 wg880 wg882 ws46 wg7 ⟨by decide, by decide⟩ (by decide +kernel) (c0 := 8) rfl ⟨by decide, by decide⟩ ⟨by decide, by decide⟩ (d_X8_giveAway_75) (fun x hx => (hno x hx).elim) ⟨by decide, by decide⟩ ⟨by decide, by decide⟩ (s_zne C0 (d_X8_giveAway_78) (by decide) hgz hgz (fun _ _ _ h => h) (s_aln C0 (d_X8_giveAway_81) hgz (s_gr C0 (j := 2) (c0 := 8) rfl gX8 (by decide) rfl rfl wg239 (d_X8_giveAway_82) hgz (s_iln C0 (d_X8_giveAway_85) hgz (s_aln C0 (d_X8_giveAway_86) hgz (s_gm C0 (j := 1) (c0 := 8) rfl gX8 (by decide) rfl rfl wg238 (d_X8_giveAway_87) hgz (s_grN C0 (j := 2) (c0 := 5) rfl gX5 (by decide) rfl rfl wn178 (d_X8_giveAway_90) hgz (s_iln C0 (d_X8_giveAway_93) hgz (s_ia C0 (d_X8_giveAway_94) hgz (s_iax C0 (d_X8_giveAway_95) hgz (s_aln C0 (d_X8_giveAway_96) hgz (s_gr C0 (j := 4) (c0 := 8) rfl gX8 (by decide) rfl rfl wg243 (d_X8_giveAway_97) hgz (s_iln C0 (d_X8_giveAway_100) hgz (s_iln C0 (d_X8_giveAway_101) hgz (s_iax C0 (d_X8_giveAway_102) hgz (fun _ _ _ h => h))))))))))))))))))))))))))))))))))))))))))))))))))))))),
  s_inc C0 (d_X8_giveAway_103) hgz (s_goto C0 (tgt := 2) (d_X8_giveAway_106) (by decide) hgz (fun _ _ _ h => h)),
  s_rv C0 hr (d_X8_giveAway_109) ⟨by decide, by decide⟩⟩
theorem c_X8_giveAway (l : Launch) : Ctr l yX8_giveAway cX8_giveAway 4 none 11 221 0 (fun sx => (nf G_X8_giveAway)) := ctr_of (by decide) gz gz ⟨rfl, rfl⟩ (fun p e s m args below meth c D ca ad sx sy A Q as M C0 hE hr hno hF => P_X8_giveAway (L_X8_giveAway C0 hE hr hno) hF)
theorem wg892 : Cond.code ⟨"WeighedHall$Sitting", "giveAway", "(I)V"⟩ prog_10_method_7_code 4 (Option.none : Option FieldType) ∈ GT := gt_mem 1012 (by decide +kernel) rfl
theorem wg889 : Cond.methodLink "WeighedHall$Sitting" 80 ⟨"WeighedHall$Sitting", "giveAway", "(I)V"⟩ ∈ GT := gt_mem 1009 (by decide +kernel) rfl
theorem wg891 : Cond.instanceMethod ⟨"WeighedHall$Sitting", "giveAway", "(I)V"⟩ ∈ GT := gt_mem 1011 (by decide +kernel) rfl
theorem ws48 : Cond.selects "WeighedHall$Sitting" ⟨"WeighedHall$Sitting", "giveAway", "(I)V"⟩ ⟨"WeighedHall$Sitting", "giveAway", "(I)V"⟩ ∈ GT := gt_mem 48 (by decide +kernel) rfl
theorem wg887 : Cond.code ⟨"WeighedHall$Sitting", "giveBack", "(I)V"⟩ prog_10_method_6_code 4 (Option.none : Option FieldType) ∈ GT := gt_mem 1007 (by decide +kernel) rfl
theorem wg884 : Cond.methodLink "WeighedHall$Sitting" 77 ⟨"WeighedHall$Sitting", "giveBack", "(I)V"⟩ ∈ GT := gt_mem 1004 (by decide +kernel) rfl
theorem wg886 : Cond.instanceMethod ⟨"WeighedHall$Sitting", "giveBack", "(I)V"⟩ ∈ GT := gt_mem 1006 (by decide +kernel) rfl
theorem ws47 : Cond.selects "WeighedHall$Sitting" ⟨"WeighedHall$Sitting", "giveBack", "(I)V"⟩ ⟨"WeighedHall$Sitting", "giveBack", "(I)V"⟩ ∈ GT := gt_mem 47 (by decide +kernel) rfl
theorem wg875 : Cond.code ⟨"WeighedHall$Sitting", "comeIn", "(I)V"⟩ prog_10_method_5_code 3 (Option.none : Option FieldType) ∈ GT := gt_mem 995 (by decide +kernel) rfl
theorem wg872 : Cond.methodLink "WeighedHall$Sitting" 73 ⟨"WeighedHall$Sitting", "comeIn", "(I)V"⟩ ∈ GT := gt_mem 992 (by decide +kernel) rfl
theorem wg874 : Cond.instanceMethod ⟨"WeighedHall$Sitting", "comeIn", "(I)V"⟩ ∈ GT := gt_mem 994 (by decide +kernel) rfl
theorem ws44 : Cond.selects "WeighedHall$Sitting" ⟨"WeighedHall$Sitting", "comeIn", "(I)V"⟩ ⟨"WeighedHall$Sitting", "comeIn", "(I)V"⟩ ∈ GT := gt_mem 44 (by decide +kernel) rfl
theorem wg901 : Cond.code ⟨"WeighedHall$Sitting", "tire", "(I)V"⟩ prog_10_method_9_code 3 (Option.none : Option FieldType) ∈ GT := gt_mem 1021 (by decide +kernel) rfl
theorem wg898 : Cond.methodLink "WeighedHall$Sitting" 86 ⟨"WeighedHall$Sitting", "tire", "(I)V"⟩ ∈ GT := gt_mem 1018 (by decide +kernel) rfl
theorem wg900 : Cond.instanceMethod ⟨"WeighedHall$Sitting", "tire", "(I)V"⟩ ∈ GT := gt_mem 1020 (by decide +kernel) rfl
theorem ws50 : Cond.selects "WeighedHall$Sitting" ⟨"WeighedHall$Sitting", "tire", "(I)V"⟩ ⟨"WeighedHall$Sitting", "tire", "(I)V"⟩ ∈ GT := gt_mem 50 (by decide +kernel) rfl
theorem wg896 : Cond.code ⟨"WeighedHall$Sitting", "weighHolders", "()V"⟩ prog_10_method_8_code 2 (Option.none : Option FieldType) ∈ GT := gt_mem 1016 (by decide +kernel) rfl
theorem wg893 : Cond.methodLink "WeighedHall$Sitting" 83 ⟨"WeighedHall$Sitting", "weighHolders", "()V"⟩ ∈ GT := gt_mem 1013 (by decide +kernel) rfl
theorem wg895 : Cond.instanceMethod ⟨"WeighedHall$Sitting", "weighHolders", "()V"⟩ ∈ GT := gt_mem 1015 (by decide +kernel) rfl
theorem ws49 : Cond.selects "WeighedHall$Sitting" ⟨"WeighedHall$Sitting", "weighHolders", "()V"⟩ ⟨"WeighedHall$Sitting", "weighHolders", "()V"⟩ ∈ GT := gt_mem 49 (by decide +kernel) rfl
theorem d_X8_goThrough_0 : decode cX8_goThrough 0 = .ok (.aload_n 0, 1) := by decide +kernel
theorem d_X8_goThrough_1 : decode cX8_goThrough 1 = .ok (.iload_n 1, 1) := by decide +kernel
theorem d_X8_goThrough_2 : decode cX8_goThrough 2 = .ok (.invokevirtual 73, 3) := by decide +kernel
theorem d_X8_goThrough_5 : decode cX8_goThrough 5 = .ok (.iload_n 2, 1) := by decide +kernel
theorem d_X8_goThrough_6 : decode cX8_goThrough 6 = .ok (.iconst (-1), 1) := by decide +kernel
theorem d_X8_goThrough_7 : decode cX8_goThrough 7 = .ok (.if_icmp .eq 13, 3) := by decide +kernel
theorem d_X8_goThrough_10 : decode cX8_goThrough 10 = .ok (.aload_n 0, 1) := by decide +kernel
theorem d_X8_goThrough_11 : decode cX8_goThrough 11 = .ok (.iload_n 2, 1) := by decide +kernel
theorem d_X8_goThrough_12 : decode cX8_goThrough 12 = .ok (.invokevirtual 77, 3) := by decide +kernel
theorem d_X8_goThrough_15 : decode cX8_goThrough 15 = .ok (.aload_n 0, 1) := by decide +kernel
theorem d_X8_goThrough_16 : decode cX8_goThrough 16 = .ok (.iload_n 2, 1) := by decide +kernel
theorem d_X8_goThrough_17 : decode cX8_goThrough 17 = .ok (.invokevirtual 80, 3) := by decide +kernel
theorem d_X8_goThrough_20 : decode cX8_goThrough 20 = .ok (.aload_n 0, 1) := by decide +kernel
theorem d_X8_goThrough_21 : decode cX8_goThrough 21 = .ok (.invokevirtual 83, 3) := by decide +kernel
theorem d_X8_goThrough_24 : decode cX8_goThrough 24 = .ok (.aload_n 0, 1) := by decide +kernel
theorem d_X8_goThrough_25 : decode cX8_goThrough 25 = .ok (.iload_n 1, 1) := by decide +kernel
theorem d_X8_goThrough_26 : decode cX8_goThrough 26 = .ok (.invokevirtual 86, 3) := by decide +kernel
theorem d_X8_goThrough_29 : decode cX8_goThrough 29 = .ok (.return_, 1) := by decide +kernel
set_option maxRecDepth 100000 in
theorem L_X8_goThrough {p : Program} {l : Launch} {e : Env} {s : State} {m : MethodId} {args : Array Value} {below : List Frame} {meth : Method} {c : Code} {D : va_G} {ca : Nat → ClassId} {ad sx sy : Nat → Nat} {A : Nat → Prop} {Q : QT} (C0 : CX p s m args meth c cX8_goThrough 3 yX8_goThrough.cls D ca ad A) (hE : EX sx sy A s s.heap) (hr : meth.sig.returnType = none) (hno : ∀ x ∈ c.exceptionTable.toList, False) : R_X8_goThrough (JW p l e { frames := 13, cells := 0, slots := 6 * 0, locals := 265 } s m args below meth c 3 D ca ad A (vx_MQ below (Qn D ca ad A Q) (Qx D ca ad A Q) args s 0 (6 * 0) A) gz gz true) Q := ⟨s_aln C0 (d_X8_goThrough_0) hgz (s_iln C0 (d_X8_goThrough_1) hgz (s_callV C0 hE (c_X8_comeIn l) wg875 wg872 wg874 ws44 wg7 ⟨by decide, by decide⟩ (by decide +kernel) (c0 := 8) rfl ⟨by decide, by decide⟩ ⟨by decide, by decide⟩ (d_X8_goThrough_2) (fun x hx => (hno x hx).elim) ⟨by decide, by decide⟩ ⟨by decide, by decide⟩ (s_iln C0 (d_X8_goThrough_5) hgz (s_ic C0 (d_X8_goThrough_6) hgz (s_ceq C0 (d_X8_goThrough_7) (by decide) hgz hgz (fun _ _ _ h => h) (s_aln C0 (d_X8_goThrough_10) hgz (s_iln C0 (d_X8_goThrough_11) hgz (s_callV C0 hE (c_X8_giveBack l) wg887 wg884 wg886 ws47 wg7 ⟨by decide, by decide⟩ (by decide +kernel) (c0 := 8) rfl ⟨by decide, by decide⟩ ⟨by decide, by decide⟩ (d_X8_goThrough_12) (fun x hx => (hno x hx).elim) ⟨by decide, by decide⟩ ⟨by decide, by decide⟩ (s_aln C0 (d_X8_goThrough_15) hgz (s_iln C0 (d_X8_goThrough_16) hgz (s_callV C0 hE (c_X8_giveAway l) wg892 wg889 wg891 ws48 wg7 ⟨by decide, by decide⟩ (by decide +kernel) (c0 := 8) rfl ⟨by decide, by decide⟩ ⟨by decide, by decide⟩ (d_X8_goThrough_17) (fun x hx => (hno x hx).elim) ⟨by decide, by decide⟩ ⟨by decide, by decide⟩ (fun _ _ _ h => h)))))))) (okn rfl))))),
  s_aln C0 (d_X8_goThrough_20) hgz (s_callV C0 hE (c_X8_weighHolders l) wg896 wg893 wg895 ws49 wg7 ⟨by decide, by decide⟩ (by decide +kernel) (c0 := 8) rfl ⟨by decide, by decide⟩ ⟨by decide, by decide⟩ (d_X8_goThrough_21) (fun x hx => (hno x hx).elim) ⟨by decide, by decide⟩ ⟨by decide, by decide⟩ (s_aln C0 (d_X8_goThrough_24) hgz (s_iln C0 (d_X8_goThrough_25) hgz (s_callV C0 hE (c_X8_tire l) wg901 wg898 wg900 ws50 wg7 ⟨by decide, by decide⟩ (by decide +kernel) (c0 := 8) rfl ⟨by decide, by decide⟩ ⟨by decide, by decide⟩ (d_X8_goThrough_26) (fun x hx => (hno x hx).elim) ⟨by decide, by decide⟩ ⟨by decide, by decide⟩ (s_rv C0 hr (d_X8_goThrough_29) ⟨by decide, by decide⟩)))))⟩
theorem c_X8_goThrough (l : Launch) : Ctr l yX8_goThrough cX8_goThrough 3 none 13 265 0 (fun sx => (nf G_X8_goThrough)) := ctr_of (by decide) gz gz ⟨rfl, rfl⟩ (fun p e s m args below meth c D ca ad sx sy A Q as M C0 hE hr hno hF => P_X8_goThrough (L_X8_goThrough C0 hE hr hno) hF)
theorem wg852 : Cond.code ⟨"WeighedHall$Sitting", "begin", "(LWeighedHall$Plan;LWeighedHall$Loans;I)V"⟩ prog_10_method_2_code 6 (Option.none : Option FieldType) ∈ GT := gt_mem 972 (by decide +kernel) rfl
theorem wn849 : Cond.methodLinkNest "WeighedHall$Chronicle" 28 ⟨"WeighedHall$Sitting", "begin", "(LWeighedHall$Plan;LWeighedHall$Loans;I)V"⟩ "WeighedHall" ∈ NT := nt_mem 849 (by decide +kernel) rfl
theorem wg851 : Cond.instanceMethod ⟨"WeighedHall$Sitting", "begin", "(LWeighedHall$Plan;LWeighedHall$Loans;I)V"⟩ ∈ GT := gt_mem 971 (by decide +kernel) rfl
theorem ws40 : Cond.selects "WeighedHall$Sitting" ⟨"WeighedHall$Sitting", "begin", "(LWeighedHall$Plan;LWeighedHall$Loans;I)V"⟩ ⟨"WeighedHall$Sitting", "begin", "(LWeighedHall$Plan;LWeighedHall$Loans;I)V"⟩ ∈ GT := gt_mem 40 (by decide +kernel) rfl
theorem wg910 : Cond.code ⟨"WeighedHall$Chronicle", "countMotionsOf", "(I)V"⟩ prog_5_method_3_code 5 (Option.none : Option FieldType) ∈ GT := gt_mem 1030 (by decide +kernel) rfl
theorem wg907 : Cond.methodLink "WeighedHall$Chronicle" 48 ⟨"WeighedHall$Chronicle", "countMotionsOf", "(I)V"⟩ ∈ GT := gt_mem 1027 (by decide +kernel) rfl
theorem wg909 : Cond.instanceMethod ⟨"WeighedHall$Chronicle", "countMotionsOf", "(I)V"⟩ ∈ GT := gt_mem 1029 (by decide +kernel) rfl
theorem ws52 : Cond.selects "WeighedHall$Chronicle" ⟨"WeighedHall$Chronicle", "countMotionsOf", "(I)V"⟩ ⟨"WeighedHall$Chronicle", "countMotionsOf", "(I)V"⟩ ∈ GT := gt_mem 52 (by decide +kernel) rfl
theorem wg906 : Cond.methodLink "WeighedHall$Chronicle" 39 ⟨"java/lang/System", "arraycopy", "(Ljava/lang/Object;ILjava/lang/Object;II)V"⟩ ∈ GT := gt_mem 1026 (by decide +kernel) rfl
theorem wg272 : Cond.fieldLink "WeighedHall$Chronicle" 22 "WeighedHall$Chronicle" "strengths" "[I" ∈ GT := gt_mem 392 (by decide +kernel) rfl
theorem wn246 : Cond.fieldLinkNest "WeighedHall$Chronicle" 45 "WeighedHall$Sitting" "strength" "[I" "WeighedHall" ∈ NT := nt_mem 246 (by decide +kernel) rfl
theorem wg271 : Cond.fieldLink "WeighedHall$Chronicle" 18 "WeighedHall$Chronicle" "holders" "[I" ∈ GT := gt_mem 391 (by decide +kernel) rfl
theorem wn240 : Cond.fieldLinkNest "WeighedHall$Chronicle" 36 "WeighedHall$Sitting" "holder" "[I" "WeighedHall" ∈ NT := nt_mem 240 (by decide +kernel) rfl
theorem wg871 : Cond.code ⟨"WeighedHall$Sitting", "goThrough", "(II)V"⟩ prog_10_method_4_code 3 (Option.none : Option FieldType) ∈ GT := gt_mem 991 (by decide +kernel) rfl
theorem wn868 : Cond.methodLinkNest "WeighedHall$Chronicle" 32 ⟨"WeighedHall$Sitting", "goThrough", "(II)V"⟩ "WeighedHall" ∈ NT := nt_mem 868 (by decide +kernel) rfl
theorem wg870 : Cond.instanceMethod ⟨"WeighedHall$Sitting", "goThrough", "(II)V"⟩ ∈ GT := gt_mem 990 (by decide +kernel) rfl
theorem ws43 : Cond.selects "WeighedHall$Sitting" ⟨"WeighedHall$Sitting", "goThrough", "(II)V"⟩ ⟨"WeighedHall$Sitting", "goThrough", "(II)V"⟩ ∈ GT := gt_mem 43 (by decide +kernel) rfl
theorem wg274 : Cond.fieldLink "WeighedHall$Chronicle" 52 "WeighedHall$Chronicle" "known" "Z" ∈ GT := gt_mem 394 (by decide +kernel) rfl
theorem d_X3_goThroughAll_0 : decode cX3_goThroughAll 0 = .ok (.aload_n 0, 1) := by decide +kernel
theorem d_X3_goThroughAll_1 : decode cX3_goThroughAll 1 = .ok (.getfield 12, 3) := by decide +kernel
theorem d_X3_goThroughAll_4 : decode cX3_goThroughAll 4 = .ok (.aload_n 1, 1) := by decide +kernel
theorem d_X3_goThroughAll_5 : decode cX3_goThroughAll 5 = .ok (.aload_n 2, 1) := by decide +kernel
theorem d_X3_goThroughAll_6 : decode cX3_goThroughAll 6 = .ok (.iconst (-1), 1) := by decide +kernel
theorem d_X3_goThroughAll_7 : decode cX3_goThroughAll 7 = .ok (.invokevirtual 28, 3) := by decide +kernel
theorem d_X3_goThroughAll_10 : decode cX3_goThroughAll 10 = .ok (.iconst 0, 1) := by decide +kernel
theorem d_X3_goThroughAll_11 : decode cX3_goThroughAll 11 = .ok (.istore_n 3, 1) := by decide +kernel
theorem d_X3_goThroughAll_12 : decode cX3_goThroughAll 12 = .ok (.iload_n 3, 1) := by decide +kernel
theorem d_X3_goThroughAll_13 : decode cX3_goThroughAll 13 = .ok (.bipush 120, 2) := by decide +kernel
theorem d_X3_goThroughAll_15 : decode cX3_goThroughAll 15 = .ok (.if_icmp .ge 65, 3) := by decide +kernel
theorem d_X3_goThroughAll_18 : decode cX3_goThroughAll 18 = .ok (.aload_n 0, 1) := by decide +kernel
theorem d_X3_goThroughAll_19 : decode cX3_goThroughAll 19 = .ok (.getfield 12, 3) := by decide +kernel
theorem d_X3_goThroughAll_22 : decode cX3_goThroughAll 22 = .ok (.iload_n 3, 1) := by decide +kernel
theorem d_X3_goThroughAll_23 : decode cX3_goThroughAll 23 = .ok (.iload_n 3, 1) := by decide +kernel
theorem d_X3_goThroughAll_24 : decode cX3_goThroughAll 24 = .ok (.invokevirtual 32, 3) := by decide +kernel
theorem d_X3_goThroughAll_27 : decode cX3_goThroughAll 27 = .ok (.aload_n 0, 1) := by decide +kernel
theorem d_X3_goThroughAll_28 : decode cX3_goThroughAll 28 = .ok (.getfield 12, 3) := by decide +kernel
theorem d_X3_goThroughAll_31 : decode cX3_goThroughAll 31 = .ok (.getfield 36, 3) := by decide +kernel
theorem d_X3_goThroughAll_34 : decode cX3_goThroughAll 34 = .ok (.iconst 0, 1) := by decide +kernel
theorem d_X3_goThroughAll_35 : decode cX3_goThroughAll 35 = .ok (.aload_n 0, 1) := by decide +kernel
theorem d_X3_goThroughAll_36 : decode cX3_goThroughAll 36 = .ok (.getfield 18, 3) := by decide +kernel
theorem d_X3_goThroughAll_39 : decode cX3_goThroughAll 39 = .ok (.iload_n 3, 1) := by decide +kernel
theorem d_X3_goThroughAll_40 : decode cX3_goThroughAll 40 = .ok (.bipush 14, 2) := by decide +kernel
theorem d_X3_goThroughAll_42 : decode cX3_goThroughAll 42 = .ok (.imul, 1) := by decide +kernel
theorem d_X3_goThroughAll_43 : decode cX3_goThroughAll 43 = .ok (.bipush 14, 2) := by decide +kernel
theorem d_X3_goThroughAll_45 : decode cX3_goThroughAll 45 = .ok (.invokestatic 39, 3) := by decide +kernel
theorem d_X3_goThroughAll_48 : decode cX3_goThroughAll 48 = .ok (.aload_n 0, 1) := by decide +kernel
theorem d_X3_goThroughAll_49 : decode cX3_goThroughAll 49 = .ok (.getfield 12, 3) := by decide +kernel
theorem d_X3_goThroughAll_52 : decode cX3_goThroughAll 52 = .ok (.getfield 45, 3) := by decide +kernel
theorem d_X3_goThroughAll_55 : decode cX3_goThroughAll 55 = .ok (.iconst 0, 1) := by decide +kernel
theorem d_X3_goThroughAll_56 : decode cX3_goThroughAll 56 = .ok (.aload_n 0, 1) := by decide +kernel
theorem d_X3_goThroughAll_57 : decode cX3_goThroughAll 57 = .ok (.getfield 22, 3) := by decide +kernel
theorem d_X3_goThroughAll_60 : decode cX3_goThroughAll 60 = .ok (.iload_n 3, 1) := by decide +kernel
theorem d_X3_goThroughAll_61 : decode cX3_goThroughAll 61 = .ok (.bipush 10, 2) := by decide +kernel
theorem d_X3_goThroughAll_63 : decode cX3_goThroughAll 63 = .ok (.imul, 1) := by decide +kernel
theorem d_X3_goThroughAll_64 : decode cX3_goThroughAll 64 = .ok (.bipush 10, 2) := by decide +kernel
theorem d_X3_goThroughAll_66 : decode cX3_goThroughAll 66 = .ok (.invokestatic 39, 3) := by decide +kernel
theorem d_X3_goThroughAll_69 : decode cX3_goThroughAll 69 = .ok (.aload_n 0, 1) := by decide +kernel
theorem d_X3_goThroughAll_70 : decode cX3_goThroughAll 70 = .ok (.iload_n 3, 1) := by decide +kernel
theorem d_X3_goThroughAll_71 : decode cX3_goThroughAll 71 = .ok (.invokevirtual 48, 3) := by decide +kernel
theorem d_X3_goThroughAll_74 : decode cX3_goThroughAll 74 = .ok (.iinc 3 1, 3) := by decide +kernel
theorem d_X3_goThroughAll_77 : decode cX3_goThroughAll 77 = .ok (.goto (-65), 3) := by decide +kernel
theorem d_X3_goThroughAll_80 : decode cX3_goThroughAll 80 = .ok (.aload_n 0, 1) := by decide +kernel
theorem d_X3_goThroughAll_81 : decode cX3_goThroughAll 81 = .ok (.iconst 1, 1) := by decide +kernel
theorem d_X3_goThroughAll_82 : decode cX3_goThroughAll 82 = .ok (.putfield 52, 3) := by decide +kernel
theorem d_X3_goThroughAll_85 : decode cX3_goThroughAll 85 = .ok (.return_, 1) := by decide +kernel
set_option maxRecDepth 100000 in
theorem L_X3_goThroughAll {p : Program} {l : Launch} {e : Env} {s : State} {m : MethodId} {args : Array Value} {below : List Frame} {meth : Method} {c : Code} {D : va_G} {ca : Nat → ClassId} {ad sx sy : Nat → Nat} {A : Nat → Prop} {Q : QT} (C0 : CX p s m args meth c cX3_goThroughAll 4 yX3_goThroughAll.cls D ca ad A) (hE : EX sx sy A s s.heap) (hr : meth.sig.returnType = none) (hno : ∀ x ∈ c.exceptionTable.toList, False) : R_X3_goThroughAll (JW p l e { frames := 14, cells := 0, slots := 6 * 0, locals := 293 } s m args below meth c 4 D ca ad A (vx_MQ below (Qn D ca ad A Q) (Qx D ca ad A Q) args s 0 (6 * 0) A) gz gz true) Q := ⟨s_aln C0 (d_X3_goThroughAll_0) hgz (s_gr C0 (j := 0) (c0 := 3) rfl gX3 (by decide) rfl rfl wg269 (d_X3_goThroughAll_1) hgz (s_aln C0 (d_X3_goThroughAll_4) hgz (s_aln C0 (d_X3_goThroughAll_5) hgz (s_ic C0 (d_X3_goThroughAll_6) hgz (s_callVN C0 hE (c_X8_begin l) wg852 wn849 wg851 ws40 wg7 ⟨by decide, by decide⟩ (by decide +kernel) (c0 := 8) rfl ⟨by decide, by decide⟩ ⟨by decide, by decide⟩ (d_X3_goThroughAll_7) (fun x hx => (hno x hx).elim) ⟨by decide, by decide⟩ ⟨by decide, by decide⟩ (s_ic C0 (d_X3_goThroughAll_10) hgz (s_isn C0 (d_X3_goThroughAll_11) hgz (fun _ _ _ h => h)) (okn rfl))) (okn rfl))))),
  s_iln C0 (d_X3_goThroughAll_12) hgz (s_bi C0 (d_X3_goThroughAll_13) hgz (s_cge C0 (d_X3_goThroughAll_15) (by decide) hgz hgz (fun _ _ _ h => h) (s_aln C0 (d_X3_goThroughAll_18) hgz (s_gr C0 (j := 0) (c0 := 3) rfl gX3 (by decide) rfl rfl wg269 (d_X3_goThroughAll_19) hgz (s_iln C0 (d_X3_goThroughAll_22) hgz (s_iln C0 (d_X3_goThroughAll_23) hgz (s_callVN C0 hE (c_X8_goThrough l) wg871 wn868 wg870 ws43 wg7 ⟨by decide, by decide⟩ (by decide +kernel) (c0 := 8) rfl ⟨by decide, by decide⟩ ⟨by decide, by decide⟩ (d_X3_goThroughAll_24) (fun x hx => (hno x hx).elim) ⟨by decide, by decide⟩ ⟨by decide, by decide⟩ (s_aln C0 (d_X3_goThroughAll_27) hgz (s_gr C0 (j := 0) (c0 := 3) rfl gX3 (by decide) rfl rfl wg269 (d_X3_goThroughAll_28) hgz (s_grN C0 (j := 2) (c0 := 8) rfl gX8 (by decide) rfl rfl wn240 (d_X3_goThroughAll_31) hgz (s_ic C0 (d_X3_goThroughAll_34) hgz (s_aln C0 (d_X3_goThroughAll_35) hgz (s_gr C0 (j := 1) (c0 := 3) rfl gX3 (by decide) rfl rfl wg271 (d_X3_goThroughAll_36) hgz (s_iln C0 (d_X3_goThroughAll_39) hgz (s_bi C0 (d_X3_goThroughAll_40) hgz (s_mul C0 (d_X3_goThroughAll_42) hgz (s_bi C0 (d_X3_goThroughAll_43) hgz (s_acp C0 wg906 wg534 wg533 wg23 ⟨by decide, by decide⟩ (d_X3_goThroughAll_45) hgz (s_aln C0 (d_X3_goThroughAll_48) hgz (s_gr C0 (j := 0) (c0 := 3) rfl gX3 (by decide) rfl rfl wg269 (d_X3_goThroughAll_49) hgz (s_grN C0 (j := 6) (c0 := 8) rfl gX8 (by decide) rfl rfl wn246 (d_X3_goThroughAll_52) hgz (s_ic C0 (d_X3_goThroughAll_55) hgz (s_aln C0 (d_X3_goThroughAll_56) hgz (s_gr C0 (j := 2) (c0 := 3) rfl gX3 (by decide) rfl rfl wg272 (d_X3_goThroughAll_57) hgz (s_iln C0 (d_X3_goThroughAll_60) hgz (s_bi C0 (d_X3_goThroughAll_61) hgz (s_mul C0 (d_X3_goThroughAll_63) hgz (s_bi C0 (d_X3_goThroughAll_64) hgz (s_acp C0 wg906 wg534 wg533 wg23 ⟨by decide, by decide⟩ (d_X3_goThroughAll_66) hgz (s_aln C0 (d_X3_goThroughAll_69) hgz (s_iln C0 (d_X3_goThroughAll_70) hgz (s_callV C0 hE (c_X3_countMotionsOf l) wg910 wg907 wg909 ws52 wg6 ⟨by decide, by decide⟩ (by decide +kernel) (c0 := 3) rfl ⟨by decide, by decide⟩ ⟨by decide, by decide⟩ (d_X3_goThroughAll_71) (fun x hx => (hno x hx).elim) ⟨by decide, by decide⟩ ⟨by decide, by decide⟩ (s_inc C0 (d_X3_goThroughAll_74) hgz (s_goto C0 (tgt := 12) (d_X3_goThroughAll_77) (by decide) hgz (fun _ _ _ h => h))))))) (okn rfl) rfl)) (okn rfl) rfl)))) (okn rfl)))))) (okn rfl) rfl)) (okn rfl) rfl)))) (okn rfl))))))))))) (okn rfl) rfl),
  s_aln C0 (d_X3_goThroughAll_80) hgz (s_ic C0 (d_X3_goThroughAll_81) hgz (s_pz C0 (j := 4) (c0 := 3) rfl gX3 tyX3_ok nmX3 (by decide) rfl (by decide) rfl rfl wg274 (d_X3_goThroughAll_82) hgz (s_rv C0 hr (d_X3_goThroughAll_85) ⟨by decide, by decide⟩)) (okn rfl))⟩
theorem c_X3_goThroughAll (l : Launch) : Ctr l yX3_goThroughAll cX3_goThroughAll 4 none 14 293 0 (fun sx => (nf G_X3_goThroughAll)) := ctr_of (by decide) gz gz ⟨rfl, rfl⟩ (fun p e s m args below meth c D ca ad sx sy A Q as M C0 hE hr hno hF => P_X3_goThroughAll (L_X3_goThroughAll C0 hE hr hno) hF)
theorem wg848 : Cond.code ⟨"WeighedHall$Chronicle", "goThroughAll", "(LWeighedHall$Plan;LWeighedHall$Loans;)V"⟩ prog_5_method_2_code 4 (Option.none : Option FieldType) ∈ GT := gt_mem 968 (by decide +kernel) rfl
theorem wn845 : Cond.methodLinkNest "WeighedHall" 354 ⟨"WeighedHall$Chronicle", "goThroughAll", "(LWeighedHall$Plan;LWeighedHall$Loans;)V"⟩ "WeighedHall" ∈ NT := nt_mem 845 (by decide +kernel) rfl
theorem wg847 : Cond.instanceMethod ⟨"WeighedHall$Chronicle", "goThroughAll", "(LWeighedHall$Plan;LWeighedHall$Loans;)V"⟩ ∈ GT := gt_mem 967 (by decide +kernel) rfl
theorem ws39 : Cond.selects "WeighedHall$Chronicle" ⟨"WeighedHall$Chronicle", "goThroughAll", "(LWeighedHall$Plan;LWeighedHall$Loans;)V"⟩ ⟨"WeighedHall$Chronicle", "goThroughAll", "(LWeighedHall$Plan;LWeighedHall$Loans;)V"⟩ ∈ GT := gt_mem 39 (by decide +kernel) rfl
theorem wg396 : Cond.fieldLink "WeighedHall" 29 "WeighedHall" "loans" "LWeighedHall$Loans;" ∈ GT := gt_mem 516 (by decide +kernel) rfl
theorem wg402 : Cond.fieldLink "WeighedHall" 54 "WeighedHall" "chronicle" "LWeighedHall$Chronicle;" ∈ GT := gt_mem 522 (by decide +kernel) rfl
theorem wn275 : Cond.fieldLinkNest "WeighedHall" 353 "WeighedHall$Chronicle" "known" "Z" "WeighedHall" ∈ NT := nt_mem 275 (by decide +kernel) rfl
theorem d_X10_chronicled_0 : decode cX10_chronicled 0 = .ok (.aload_n 0, 1) := by decide +kernel
theorem d_X10_chronicled_1 : decode cX10_chronicled 1 = .ok (.getfield 54, 3) := by decide +kernel
theorem d_X10_chronicled_4 : decode cX10_chronicled 4 = .ok (.getfield 353, 3) := by decide +kernel
theorem d_X10_chronicled_7 : decode cX10_chronicled 7 = .ok (.ifCond .ne 18, 3) := by decide +kernel
theorem d_X10_chronicled_10 : decode cX10_chronicled 10 = .ok (.aload_n 0, 1) := by decide +kernel
theorem d_X10_chronicled_11 : decode cX10_chronicled 11 = .ok (.getfield 54, 3) := by decide +kernel
theorem d_X10_chronicled_14 : decode cX10_chronicled 14 = .ok (.aload_n 0, 1) := by decide +kernel
theorem d_X10_chronicled_15 : decode cX10_chronicled 15 = .ok (.getfield 19, 3) := by decide +kernel
theorem d_X10_chronicled_18 : decode cX10_chronicled 18 = .ok (.aload_n 0, 1) := by decide +kernel
theorem d_X10_chronicled_19 : decode cX10_chronicled 19 = .ok (.getfield 29, 3) := by decide +kernel
theorem d_X10_chronicled_22 : decode cX10_chronicled 22 = .ok (.invokevirtual 354, 3) := by decide +kernel
theorem d_X10_chronicled_25 : decode cX10_chronicled 25 = .ok (.aload_n 0, 1) := by decide +kernel
theorem d_X10_chronicled_26 : decode cX10_chronicled 26 = .ok (.getfield 54, 3) := by decide +kernel
theorem d_X10_chronicled_29 : decode cX10_chronicled 29 = .ok (.areturn, 1) := by decide +kernel
set_option maxRecDepth 100000 in
theorem L_X10_chronicled {p : Program} {l : Launch} {e : Env} {s : State} {m : MethodId} {args : Array Value} {below : List Frame} {meth : Method} {c : Code} {D : va_G} {ca : Nat → ClassId} {ad sx sy : Nat → Nat} {A : Nat → Prop} {Q : QT} (C0 : CX p s m args meth c cX10_chronicled 1 yX10_chronicled.cls D ca ad A) (hE : EX sx sy A s s.heap) (hr : meth.sig.returnType = (some (.object "WeighedHall$Chronicle"))) (hno : ∀ x ∈ c.exceptionTable.toList, False) : R_X10_chronicled (JW p l e { frames := 15, cells := 0, slots := 6 * 0, locals := 316 } s m args below meth c 1 D ca ad A (vx_MQ below (Qn D ca ad A Q) (Qx D ca ad A Q) args s 0 (6 * 0) A) gz gz true) Q := ⟨s_aln C0 (d_X10_chronicled_0) hgz (s_gr C0 (j := 9) (c0 := 10) rfl gX10 (by decide) rfl rfl wg402 (d_X10_chronicled_1) hgz (s_giN C0 (j := 4) (c0 := 3) rfl gX3 (by decide) rfl (by decide) wn275 (d_X10_chronicled_4) hgz (s_zne C0 (d_X10_chronicled_7) (by decide) hgz hgz (fun _ _ _ h => h) (s_aln C0 (d_X10_chronicled_10) hgz (s_gr C0 (j := 9) (c0 := 10) rfl gX10 (by decide) rfl rfl wg402 (d_X10_chronicled_11) hgz (s_aln C0 (d_X10_chronicled_14) hgz (s_gm C0 (j := 1) (c0 := 10) rfl gX10 (by decide) rfl rfl wg394 (d_X10_chronicled_15) hgz (s_aln C0 (d_X10_chronicled_18) hgz (s_gm C0 (j := 3) (c0 := 10) rfl gX10 (by decide) rfl rfl wg396 (d_X10_chronicled_19) hgz (s_callVN C0 hE (c_X3_goThroughAll l) wg848 wn845 wg847 ws39 wg6 ⟨by decide, by decide⟩ (by decide +kernel) (c0 := 3) rfl ⟨by decide, by decide⟩ ⟨by decide, by decide⟩ (d_X10_chronicled_22) (fun x hx => (hno x hx).elim) ⟨by decide, by decide⟩ ⟨by decide, by decide⟩ (fun _ _ _ h => h))))))))))),
  s_aln C0 (d_X10_chronicled_25) hgz (s_gr C0 (j := 9) (c0 := 10) rfl gX10 (by decide) rfl rfl wg402 (d_X10_chronicled_26) hgz (s_ra C0 hr (d_X10_chronicled_29) ⟨by decide, by decide⟩))⟩
theorem c_X10_chronicled (l : Launch) : Ctr l yX10_chronicled cX10_chronicled 1 (some (.object "WeighedHall$Chronicle")) 15 316 0 (fun sx => (nf G_X10_chronicled)) := ctr_of (by decide) gz gz ⟨rfl, rfl⟩ (fun p e s m args below meth c D ca ad sx sy A Q as M C0 hE hr hno hF => P_X10_chronicled (L_X10_chronicled C0 hE hr hno) hF)
theorem wn202 : Cond.fieldLinkNest "WeighedHall" 291 "WeighedHall$Ballots" "number" "I" "WeighedHall" ∈ NT := nt_mem 202 (by decide +kernel) rfl
theorem wg398 : Cond.fieldLink "WeighedHall" 39 "WeighedHall" "ballots" "LWeighedHall$Ballots;" ∈ GT := gt_mem 518 (by decide +kernel) rfl
theorem wg401 : Cond.fieldLink "WeighedHall" 126 "WeighedHall" "images" "I" ∈ GT := gt_mem 521 (by decide +kernel) rfl
theorem wn40 : Cond.fieldLinkNest "WeighedHall" 96 "WeighedHall$Tape" "size" "I" "WeighedHall" ∈ NT := nt_mem 40 (by decide +kernel) rfl
theorem wg393 : Cond.fieldLink "WeighedHall" 10 "WeighedHall" "tape" "LWeighedHall$Tape;" ∈ GT := gt_mem 513 (by decide +kernel) rfl
theorem d_X10_count_0 : decode cX10_count 0 = .ok (.iload_n 1, 1) := by decide +kernel
theorem d_X10_count_1 : decode cX10_count 1 = .ok (.tableswitch 48 0 2 #[27, 35, 40], 27) := by decide +kernel
theorem d_X10_count_28 : decode cX10_count 28 = .ok (.aload_n 0, 1) := by decide +kernel
theorem d_X10_count_29 : decode cX10_count 29 = .ok (.getfield 39, 3) := by decide +kernel
theorem d_X10_count_32 : decode cX10_count 32 = .ok (.getfield 291, 3) := by decide +kernel
theorem d_X10_count_35 : decode cX10_count 35 = .ok (.ireturn, 1) := by decide +kernel
theorem d_X10_count_36 : decode cX10_count 36 = .ok (.aload_n 0, 1) := by decide +kernel
theorem d_X10_count_37 : decode cX10_count 37 = .ok (.getfield 126, 3) := by decide +kernel
theorem d_X10_count_40 : decode cX10_count 40 = .ok (.ireturn, 1) := by decide +kernel
theorem d_X10_count_41 : decode cX10_count 41 = .ok (.aload_n 0, 1) := by decide +kernel
theorem d_X10_count_42 : decode cX10_count 42 = .ok (.getfield 10, 3) := by decide +kernel
theorem d_X10_count_45 : decode cX10_count 45 = .ok (.getfield 96, 3) := by decide +kernel
theorem d_X10_count_48 : decode cX10_count 48 = .ok (.ireturn, 1) := by decide +kernel
theorem d_X10_count_49 : decode cX10_count 49 = .ok (.iconst (-1), 1) := by decide +kernel
theorem d_X10_count_50 : decode cX10_count 50 = .ok (.ireturn, 1) := by decide +kernel
set_option maxRecDepth 100000 in
theorem L_X10_count {p : Program} {l : Launch} {e : Env} {s : State} {m : MethodId} {args : Array Value} {below : List Frame} {meth : Method} {c : Code} {D : va_G} {ca : Nat → ClassId} {ad sx sy : Nat → Nat} {A : Nat → Prop} {Q : QT} (C0 : CX p s m args meth c cX10_count 2 yX10_count.cls D ca ad A) (hE : EX sx sy A s s.heap) (hr : meth.sig.returnType = (some .int)) (hno : ∀ x ∈ c.exceptionTable.toList, False) : R_X10_count (JW p l e { frames := 10, cells := 0, slots := 6 * 0, locals := 200 } s m args below meth c 2 D ca ad A (vx_MQ below (Qn D ca ad A Q) (Qx D ca ad A Q) args s 0 (6 * 0) A) gz gz true) Q := ⟨s_iln C0 (d_X10_count_0) hgz (s_tab C0 (d_X10_count_1) (by decide) (by decide) (by decide) (by decide) (fun _ _ => hgz) (fun _ _ _ _ _ h => h)),
  s_aln C0 (d_X10_count_28) hgz (s_gr C0 (j := 5) (c0 := 10) rfl gX10 (by decide) rfl rfl wg398 (d_X10_count_29) hgz (s_giN C0 (j := 0) (c0 := 0) rfl gX0 (by decide) rfl (by decide) wn202 (d_X10_count_32) hgz (s_ri C0 hr (d_X10_count_35) ⟨by decide, by decide⟩))),
  s_aln C0 (d_X10_count_36) hgz (s_gi C0 (j := 8) (c0 := 10) rfl gX10 (by decide) rfl (by decide) wg401 (d_X10_count_37) hgz (s_ri C0 hr (d_X10_count_40) ⟨by decide, by decide⟩)),
  s_aln C0 (d_X10_count_41) hgz (s_gr C0 (j := 0) (c0 := 10) rfl gX10 (by decide) rfl rfl wg393 (d_X10_count_42) hgz (s_giN C0 (j := 1) (c0 := 9) rfl gX9 (by decide) rfl (by decide) wn40 (d_X10_count_45) hgz (s_ri C0 hr (d_X10_count_48) ⟨by decide, by decide⟩))),
  s_ic C0 (d_X10_count_49) hgz (s_ri C0 hr (d_X10_count_50) ⟨by decide, by decide⟩) (okn rfl)⟩
theorem c_X10_count (l : Launch) : Ctr l yX10_count cX10_count 2 (some .int) 10 200 0 (fun sx => (nf G_X10_count)) := ctr_of (by decide) gz gz ⟨rfl, rfl⟩ (fun p e s m args below meth c D ca ad sx sy A Q as M C0 hE hr hno hF => P_X10_count (L_X10_count C0 hE hr hno) hF)
theorem d_X3_counted_0 : decode cX3_counted 0 = .ok (.iload_n 1, 1) := by decide +kernel
theorem d_X3_counted_1 : decode cX3_counted 1 = .ok (.iload_n 2, 1) := by decide +kernel
theorem d_X3_counted_2 : decode cX3_counted 2 = .ok (.iload_n 3, 1) := by decide +kernel
theorem d_X3_counted_3 : decode cX3_counted 3 = .ok (.invokestatic 69, 3) := by decide +kernel
theorem d_X3_counted_6 : decode cX3_counted 6 = .ok (.istore 4, 2) := by decide +kernel
theorem d_X3_counted_8 : decode cX3_counted 8 = .ok (.iload 4, 2) := by decide +kernel
theorem d_X3_counted_10 : decode cX3_counted 10 = .ok (.ifCond .lt 23, 3) := by decide +kernel
theorem d_X3_counted_13 : decode cX3_counted 13 = .ok (.iload 4, 2) := by decide +kernel
theorem d_X3_counted_15 : decode cX3_counted 15 = .ok (.aload_n 0, 1) := by decide +kernel
theorem d_X3_counted_16 : decode cX3_counted 16 = .ok (.getfield 25, 3) := by decide +kernel
theorem d_X3_counted_19 : decode cX3_counted 19 = .ok (.arraylength, 1) := by decide +kernel
theorem d_X3_counted_20 : decode cX3_counted 20 = .ok (.if_icmp .ge 13, 3) := by decide +kernel
theorem d_X3_counted_23 : decode cX3_counted 23 = .ok (.aload_n 0, 1) := by decide +kernel
theorem d_X3_counted_24 : decode cX3_counted 24 = .ok (.getfield 25, 3) := by decide +kernel
theorem d_X3_counted_27 : decode cX3_counted 27 = .ok (.iload 4, 2) := by decide +kernel
theorem d_X3_counted_29 : decode cX3_counted 29 = .ok (.iaload, 1) := by decide +kernel
theorem d_X3_counted_30 : decode cX3_counted 30 = .ok (.goto 4, 3) := by decide +kernel
theorem d_X3_counted_33 : decode cX3_counted 33 = .ok (.iconst 0, 1) := by decide +kernel
theorem d_X3_counted_34 : decode cX3_counted 34 = .ok (.ireturn, 1) := by decide +kernel
set_option maxRecDepth 100000 in
theorem L_X3_counted {p : Program} {l : Launch} {e : Env} {s : State} {m : MethodId} {args : Array Value} {below : List Frame} {meth : Method} {c : Code} {D : va_G} {ca : Nat → ClassId} {ad sx sy : Nat → Nat} {A : Nat → Prop} {Q : QT} (C0 : CX p s m args meth c cX3_counted 5 yX3_counted.cls D ca ad A) (hE : EX sx sy A s s.heap) (hr : meth.sig.returnType = (some .int)) (hno : ∀ x ∈ c.exceptionTable.toList, False) : R_X3_counted (JW p l e { frames := 11, cells := 0, slots := 6 * 0, locals := 222 } s m args below meth c 5 D ca ad A (vx_MQ below (Qn D ca ad A Q) (Qx D ca ad A Q) args s 0 (6 * 0) A) gz gz true) Q := ⟨s_iln C0 (d_X3_counted_0) hgz (s_iln C0 (d_X3_counted_1) hgz (s_iln C0 (d_X3_counted_2) hgz (s_callS C0 hE (c_X3_placeOf l) wg913 wg911 wg912 wg6 ⟨by decide, by decide⟩ (by decide +kernel) ⟨by decide, by decide⟩ ⟨by decide, by decide⟩ (d_X3_counted_3) (fun x hx => (hno x hx).elim) ⟨by decide, by decide⟩ ⟨by decide, by decide⟩ (s_is C0 (d_X3_counted_6) hgz (s_il C0 (d_X3_counted_8) hgz (s_zlt C0 (d_X3_counted_10) (by decide) hgz hgz (fun _ _ _ h => h) (s_il C0 (d_X3_counted_13) hgz (s_aln C0 (d_X3_counted_15) hgz (s_gr C0 (j := 3) (c0 := 3) rfl gX3 (by decide) rfl rfl wg273 (d_X3_counted_16) hgz (s_len C0 (d_X3_counted_19) hgz (s_cge C0 (d_X3_counted_20) (by decide) hgz hgz (fun _ _ _ h => h) (s_aln C0 (d_X3_counted_23) hgz (s_gr C0 (j := 3) (c0 := 3) rfl gX3 (by decide) rfl rfl wg273 (d_X3_counted_24) hgz (s_il C0 (d_X3_counted_27) hgz (s_ia C0 (d_X3_counted_29) hgz (s_goto C0 (tgt := 34) (d_X3_counted_30) (by decide) hgz (fun _ _ _ h => h))))))))))))))))),
  s_ic C0 (d_X3_counted_33) hgz (fun _ _ _ h => h) (okn rfl),
  s_ri C0 hr (d_X3_counted_34) ⟨by decide, by decide⟩⟩
theorem c_X3_counted (l : Launch) : Ctr l yX3_counted cX3_counted 5 (some .int) 11 222 0 (fun sx => (nf G_X3_counted)) := ctr_of (by decide) gz gz ⟨rfl, rfl⟩ (fun p e s m args below meth c D ca ad sx sy A Q as M C0 hE hr hno hF => P_X3_counted (L_X3_counted C0 hE hr hno) hF)
theorem wg980 : Cond.code ⟨"WeighedHall$Chronicle", "counted", "(III)I"⟩ prog_5_method_5_code 5 (Option.some .int) ∈ GT := gt_mem 1100 (by decide +kernel) rfl
theorem wg977 : Cond.methodLink "WeighedHall$Chronicle" 83 ⟨"WeighedHall$Chronicle", "counted", "(III)I"⟩ ∈ GT := gt_mem 1097 (by decide +kernel) rfl
theorem wg979 : Cond.instanceMethod ⟨"WeighedHall$Chronicle", "counted", "(III)I"⟩ ∈ GT := gt_mem 1099 (by decide +kernel) rfl
theorem ws59 : Cond.selects "WeighedHall$Chronicle" ⟨"WeighedHall$Chronicle", "counted", "(III)I"⟩ ⟨"WeighedHall$Chronicle", "counted", "(III)I"⟩ ∈ GT := gt_mem 59 (by decide +kernel) rfl
theorem d_X3_isPassed_0 : decode cX3_isPassed 0 = .ok (.aload_n 0, 1) := by decide +kernel
theorem d_X3_isPassed_1 : decode cX3_isPassed 1 = .ok (.iload_n 1, 1) := by decide +kernel
theorem d_X3_isPassed_2 : decode cX3_isPassed 2 = .ok (.iload_n 2, 1) := by decide +kernel
theorem d_X3_isPassed_3 : decode cX3_isPassed 3 = .ok (.iconst 0, 1) := by decide +kernel
theorem d_X3_isPassed_4 : decode cX3_isPassed 4 = .ok (.invokevirtual 83, 3) := by decide +kernel
theorem d_X3_isPassed_7 : decode cX3_isPassed 7 = .ok (.aload_n 0, 1) := by decide +kernel
theorem d_X3_isPassed_8 : decode cX3_isPassed 8 = .ok (.iload_n 1, 1) := by decide +kernel
theorem d_X3_isPassed_9 : decode cX3_isPassed 9 = .ok (.iload_n 2, 1) := by decide +kernel
theorem d_X3_isPassed_10 : decode cX3_isPassed 10 = .ok (.iconst 1, 1) := by decide +kernel
theorem d_X3_isPassed_11 : decode cX3_isPassed 11 = .ok (.invokevirtual 83, 3) := by decide +kernel
theorem d_X3_isPassed_14 : decode cX3_isPassed 14 = .ok (.if_icmp .le 7, 3) := by decide +kernel
theorem d_X3_isPassed_17 : decode cX3_isPassed 17 = .ok (.iconst 1, 1) := by decide +kernel
theorem d_X3_isPassed_18 : decode cX3_isPassed 18 = .ok (.goto 4, 3) := by decide +kernel
theorem d_X3_isPassed_21 : decode cX3_isPassed 21 = .ok (.iconst 0, 1) := by decide +kernel
theorem d_X3_isPassed_22 : decode cX3_isPassed 22 = .ok (.ireturn, 1) := by decide +kernel
set_option maxRecDepth 100000 in
theorem L_X3_isPassed {p : Program} {l : Launch} {e : Env} {s : State} {m : MethodId} {args : Array Value} {below : List Frame} {meth : Method} {c : Code} {D : va_G} {ca : Nat → ClassId} {ad sx sy : Nat → Nat} {A : Nat → Prop} {Q : QT} (C0 : CX p s m args meth c cX3_isPassed 3 yX3_isPassed.cls D ca ad A) (hE : EX sx sy A s s.heap) (hr : meth.sig.returnType = (some .boolean)) (hno : ∀ x ∈ c.exceptionTable.toList, False) : R_X3_isPassed (JW p l e { frames := 12, cells := 0, slots := 6 * 0, locals := 246 } s m args below meth c 3 D ca ad A (vx_MQ below (Qn D ca ad A Q) (Qx D ca ad A Q) args s 0 (6 * 0) A) gz gz true) Q := ⟨s_aln C0 (d_X3_isPassed_0) hgz (s_iln C0 (d_X3_isPassed_1) hgz (s_iln C0 (d_X3_isPassed_2) hgz (s_ic C0 (d_X3_isPassed_3) hgz (s_callV C0 hE (c_X3_counted l) wg980 wg977 wg979 ws59 wg6 ⟨by decide, by decide⟩ (by decide +kernel) (c0 := 3) rfl ⟨by decide, by decide⟩ ⟨by decide, by decide⟩ (d_X3_isPassed_4) (fun x hx => (hno x hx).elim) ⟨by decide, by decide⟩ ⟨by decide, by decide⟩ (s_aln C0 (d_X3_isPassed_7) hgz (s_iln C0 (d_X3_isPassed_8) hgz (s_iln C0 (d_X3_isPassed_9) hgz (s_ic C0 (d_X3_isPassed_10) hgz (s_callV C0 hE (c_X3_counted l) wg980 wg977 wg979 ws59 wg6 ⟨by decide, by decide⟩ (by decide +kernel) (c0 := 3) rfl ⟨by decide, by decide⟩ ⟨by decide, by decide⟩ (d_X3_isPassed_11) (fun x hx => (hno x hx).elim) ⟨by decide, by decide⟩ ⟨by decide, by decide⟩ (s_cle C0 (d_X3_isPassed_14) (by decide) hgz hgz (fun _ _ _ h => h) (s_ic C0 (d_X3_isPassed_17) hgz (s_goto C0 (tgt := 22) (d_X3_isPassed_18) (by decide) hgz (fun _ _ _ h => h)) (okn rfl)))) (okn rfl)))))) (okn rfl)))),
  s_ic C0 (d_X3_isPassed_21) hgz (fun _ _ _ h => h) (okn rfl),
  s_rz C0 hr (d_X3_isPassed_22) ⟨by decide, by decide⟩⟩
theorem c_X3_isPassed (l : Launch) : Ctr l yX3_isPassed cX3_isPassed 3 (some .boolean) 12 246 0 (fun sx => (nf G_X3_isPassed)) := ctr_of (by decide) gz gz ⟨rfl, rfl⟩ (fun p e s m args below meth c D ca ad sx sy A Q as M C0 hE hr hno hF => P_X3_isPassed (L_X3_isPassed C0 hE hr hno) hF)
theorem wg976 : Cond.code ⟨"WeighedHall$Chronicle", "isPassed", "(II)Z"⟩ prog_5_method_6_code 3 (Option.some .boolean) ∈ GT := gt_mem 1096 (by decide +kernel) rfl
theorem wg993 : Cond.methodLink "WeighedHall$Chronicle" 86 ⟨"WeighedHall$Chronicle", "isPassed", "(II)Z"⟩ ∈ GT := gt_mem 1113 (by decide +kernel) rfl
theorem wg975 : Cond.instanceMethod ⟨"WeighedHall$Chronicle", "isPassed", "(II)Z"⟩ ∈ GT := gt_mem 1095 (by decide +kernel) rfl
theorem ws58 : Cond.selects "WeighedHall$Chronicle" ⟨"WeighedHall$Chronicle", "isPassed", "(II)Z"⟩ ⟨"WeighedHall$Chronicle", "isPassed", "(II)Z"⟩ ∈ GT := gt_mem 58 (by decide +kernel) rfl
theorem d_X3_passedBits_0 : decode cX3_passedBits 0 = .ok (.iconst 0, 1) := by decide +kernel
theorem d_X3_passedBits_1 : decode cX3_passedBits 1 = .ok (.istore_n 2, 1) := by decide +kernel
theorem d_X3_passedBits_2 : decode cX3_passedBits 2 = .ok (.iconst 0, 1) := by decide +kernel
theorem d_X3_passedBits_3 : decode cX3_passedBits 3 = .ok (.istore_n 3, 1) := by decide +kernel
theorem d_X3_passedBits_4 : decode cX3_passedBits 4 = .ok (.iload_n 3, 1) := by decide +kernel
theorem d_X3_passedBits_5 : decode cX3_passedBits 5 = .ok (.aload_n 0, 1) := by decide +kernel
theorem d_X3_passedBits_6 : decode cX3_passedBits 6 = .ok (.getfield 12, 3) := by decide +kernel
theorem d_X3_passedBits_9 : decode cX3_passedBits 9 = .ok (.getfield 56, 3) := by decide +kernel
theorem d_X3_passedBits_12 : decode cX3_passedBits 12 = .ok (.getfield 60, 3) := by decide +kernel
theorem d_X3_passedBits_15 : decode cX3_passedBits 15 = .ok (.if_icmp .ge 24, 3) := by decide +kernel
theorem d_X3_passedBits_18 : decode cX3_passedBits 18 = .ok (.aload_n 0, 1) := by decide +kernel
theorem d_X3_passedBits_19 : decode cX3_passedBits 19 = .ok (.iload_n 3, 1) := by decide +kernel
theorem d_X3_passedBits_20 : decode cX3_passedBits 20 = .ok (.iload_n 1, 1) := by decide +kernel
theorem d_X3_passedBits_21 : decode cX3_passedBits 21 = .ok (.invokevirtual 86, 3) := by decide +kernel
theorem d_X3_passedBits_24 : decode cX3_passedBits 24 = .ok (.ifCond .eq 9, 3) := by decide +kernel
theorem d_X3_passedBits_27 : decode cX3_passedBits 27 = .ok (.iload_n 2, 1) := by decide +kernel
theorem d_X3_passedBits_28 : decode cX3_passedBits 28 = .ok (.iconst 1, 1) := by decide +kernel
theorem d_X3_passedBits_29 : decode cX3_passedBits 29 = .ok (.iload_n 3, 1) := by decide +kernel
theorem d_X3_passedBits_30 : decode cX3_passedBits 30 = .ok (.ishl, 1) := by decide +kernel
theorem d_X3_passedBits_31 : decode cX3_passedBits 31 = .ok (.ior, 1) := by decide +kernel
theorem d_X3_passedBits_32 : decode cX3_passedBits 32 = .ok (.istore_n 2, 1) := by decide +kernel
theorem d_X3_passedBits_33 : decode cX3_passedBits 33 = .ok (.iinc 3 1, 3) := by decide +kernel
theorem d_X3_passedBits_36 : decode cX3_passedBits 36 = .ok (.goto (-32), 3) := by decide +kernel
theorem d_X3_passedBits_39 : decode cX3_passedBits 39 = .ok (.iload_n 2, 1) := by decide +kernel
theorem d_X3_passedBits_40 : decode cX3_passedBits 40 = .ok (.ireturn, 1) := by decide +kernel
set_option maxRecDepth 100000 in
theorem L_X3_passedBits {p : Program} {l : Launch} {e : Env} {s : State} {m : MethodId} {args : Array Value} {below : List Frame} {meth : Method} {c : Code} {D : va_G} {ca : Nat → ClassId} {ad sx sy : Nat → Nat} {A : Nat → Prop} {Q : QT} (C0 : CX p s m args meth c cX3_passedBits 4 yX3_passedBits.cls D ca ad A) (hE : EX sx sy A s s.heap) (hr : meth.sig.returnType = (some .int)) (hno : ∀ x ∈ c.exceptionTable.toList, False) : R_X3_passedBits (JW p l e { frames := 13, cells := 0, slots := 6 * 0, locals := 268 } s m args below meth c 4 D ca ad A (vx_MQ below (Qn D ca ad A Q) (Qx D ca ad A Q) args s 0 (6 * 0) A) gz gz true) Q := ⟨s_ic C0 (d_X3_passedBits_0) hgz (s_isn C0 (d_X3_passedBits_1) hgz (s_ic C0 (d_X3_passedBits_2) hgz (s_isn C0 (d_X3_passedBits_3) hgz (fun _ _ _ h => h)) (okn rfl))) (okn rfl),
  s_iln C0 (d_X3_passedBits_4) hgz (s_aln C0 (d_X3_passedBits_5) hgz (s_gr C0 (j := 0) (c0 := 3) rfl gX3 (by decide) rfl rfl wg269 (d_X3_passedBits_6) hgz (s_gmN C0 (j := 0) (c0 := 8) rfl gX8 (by decide) rfl rfl wn237 (d_X3_passedBits_9) hgz (s_giN C0 (j := 10) (c0 := 6) rfl gX6 (by decide) rfl (by decide) wn116 (d_X3_passedBits_12) hgz (s_cge C0 (d_X3_passedBits_15) (by decide) hgz hgz (fun _ _ _ h => h) (s_aln C0 (d_X3_passedBits_18) hgz (s_iln C0 (d_X3_passedBits_19) hgz (s_iln C0 (d_X3_passedBits_20) hgz (s_callV C0 hE (c_X3_isPassed l) wg976 wg993 wg975 ws58 wg6 ⟨by decide, by decide⟩ (by decide +kernel) (c0 := 3) rfl ⟨by decide, by decide⟩ ⟨by decide, by decide⟩ (d_X3_passedBits_21) (fun x hx => (hno x hx).elim) ⟨by decide, by decide⟩ ⟨by decide, by decide⟩ (s_zeq C0 (d_X3_passedBits_24) (by decide) hgz hgz (fun _ _ _ h => h) (s_iln C0 (d_X3_passedBits_27) hgz (s_ic C0 (d_X3_passedBits_28) hgz (s_iln C0 (d_X3_passedBits_29) hgz (s_shl C0 (d_X3_passedBits_30) hgz (s_or C0 (d_X3_passedBits_31) hgz (s_isn C0 (d_X3_passedBits_32) hgz (fun _ _ _ h => h))))) (okn rfl))))))))))))),
  s_inc C0 (d_X3_passedBits_33) hgz (s_goto C0 (tgt := 4) (d_X3_passedBits_36) (by decide) hgz (fun _ _ _ h => h)),
  s_iln C0 (d_X3_passedBits_39) hgz (s_ri C0 hr (d_X3_passedBits_40) ⟨by decide, by decide⟩)⟩
theorem c_X3_passedBits (l : Launch) : Ctr l yX3_passedBits cX3_passedBits 4 (some .int) 13 268 0 (fun sx => (nf G_X3_passedBits)) := ctr_of (by decide) gz gz ⟨rfl, rfl⟩ (fun p e s m args below meth c D ca ad sx sy A Q as M C0 hE hr hno hF => P_X3_passedBits (L_X3_passedBits C0 hE hr hno) hF)
theorem wg115 : Cond.fieldLink "WeighedHall$Plan" 52 "WeighedHall$Plan" "motions" "I" ∈ GT := gt_mem 235 (by decide +kernel) rfl
theorem d_X6_hasMotion_0 : decode cX6_hasMotion 0 = .ok (.iload_n 1, 1) := by decide +kernel
theorem d_X6_hasMotion_1 : decode cX6_hasMotion 1 = .ok (.ifCond .lt 15, 3) := by decide +kernel
theorem d_X6_hasMotion_4 : decode cX6_hasMotion 4 = .ok (.iload_n 1, 1) := by decide +kernel
theorem d_X6_hasMotion_5 : decode cX6_hasMotion 5 = .ok (.aload_n 0, 1) := by decide +kernel
theorem d_X6_hasMotion_6 : decode cX6_hasMotion 6 = .ok (.getfield 52, 3) := by decide +kernel
theorem d_X6_hasMotion_9 : decode cX6_hasMotion 9 = .ok (.if_icmp .ge 7, 3) := by decide +kernel
theorem d_X6_hasMotion_12 : decode cX6_hasMotion 12 = .ok (.iconst 1, 1) := by decide +kernel
theorem d_X6_hasMotion_13 : decode cX6_hasMotion 13 = .ok (.goto 4, 3) := by decide +kernel
theorem d_X6_hasMotion_16 : decode cX6_hasMotion 16 = .ok (.iconst 0, 1) := by decide +kernel
theorem d_X6_hasMotion_17 : decode cX6_hasMotion 17 = .ok (.ireturn, 1) := by decide +kernel
set_option maxRecDepth 100000 in
theorem L_X6_hasMotion {p : Program} {l : Launch} {e : Env} {s : State} {m : MethodId} {args : Array Value} {below : List Frame} {meth : Method} {c : Code} {D : va_G} {ca : Nat → ClassId} {ad sx sy : Nat → Nat} {A : Nat → Prop} {Q : QT} (C0 : CX p s m args meth c cX6_hasMotion 2 yX6_hasMotion.cls D ca ad A) (hE : EX sx sy A s s.heap) (hr : meth.sig.returnType = (some .boolean)) (hno : ∀ x ∈ c.exceptionTable.toList, False) : R_X6_hasMotion (JW p l e { frames := 10, cells := 0, slots := 6 * 0, locals := 200 } s m args below meth c 2 D ca ad A (vx_MQ below (Qn D ca ad A Q) (Qx D ca ad A Q) args s 0 (6 * 0) A) gz gz true) Q := ⟨s_iln C0 (d_X6_hasMotion_0) hgz (s_zlt C0 (d_X6_hasMotion_1) (by decide) hgz hgz (fun _ _ _ h => h) (s_iln C0 (d_X6_hasMotion_4) hgz (s_aln C0 (d_X6_hasMotion_5) hgz (s_gi C0 (j := 10) (c0 := 6) rfl gX6 (by decide) rfl (by decide) wg115 (d_X6_hasMotion_6) hgz (s_cge C0 (d_X6_hasMotion_9) (by decide) hgz hgz (fun _ _ _ h => h) (s_ic C0 (d_X6_hasMotion_12) hgz (s_goto C0 (tgt := 17) (d_X6_hasMotion_13) (by decide) hgz (fun _ _ _ h => h)) (okn rfl))))))),
  s_ic C0 (d_X6_hasMotion_16) hgz (fun _ _ _ h => h) (okn rfl),
  s_rz C0 hr (d_X6_hasMotion_17) ⟨by decide, by decide⟩⟩
theorem c_X6_hasMotion (l : Launch) : Ctr l yX6_hasMotion cX6_hasMotion 2 (some .boolean) 10 200 0 (fun sx => (nf G_X6_hasMotion)) := ctr_of (by decide) gz gz ⟨rfl, rfl⟩ (fun p e s m args below meth c D ca ad sx sy A Q as M C0 hE hr hno hF => P_X6_hasMotion (L_X6_hasMotion C0 hE hr hno) hF)
theorem wg1059 : Cond.methodLink "WeighedHall$Sitting" 137 ⟨"WeighedHall$Sitting", "countOf", "(II)I"⟩ ∈ GT := gt_mem 1179 (by decide +kernel) rfl
theorem wn130 : Cond.fieldLinkNest "WeighedHall$Sitting" 141 "WeighedHall$Plan" "con" "[I" "WeighedHall" ∈ NT := nt_mem 130 (by decide +kernel) rfl
theorem wn127 : Cond.fieldLinkNest "WeighedHall$Sitting" 134 "WeighedHall$Plan" "pro" "[I" "WeighedHall" ∈ NT := nt_mem 127 (by decide +kernel) rfl
theorem wg969 : Cond.code ⟨"WeighedHall$Plan", "hasMotion", "(I)Z"⟩ prog_8_method_15_code 2 (Option.some .boolean) ∈ GT := gt_mem 1089 (by decide +kernel) rfl
theorem wn1058 : Cond.methodLinkNest "WeighedHall$Sitting" 131 ⟨"WeighedHall$Plan", "hasMotion", "(I)Z"⟩ "WeighedHall" ∈ NT := nt_mem 1058 (by decide +kernel) rfl
theorem wg968 : Cond.instanceMethod ⟨"WeighedHall$Plan", "hasMotion", "(I)Z"⟩ ∈ GT := gt_mem 1088 (by decide +kernel) rfl
theorem ws57 : Cond.selects "WeighedHall$Plan" ⟨"WeighedHall$Plan", "hasMotion", "(I)Z"⟩ ⟨"WeighedHall$Plan", "hasMotion", "(I)Z"⟩ ∈ GT := gt_mem 57 (by decide +kernel) rfl
theorem d_X8_isPassed_0 : decode cX8_isPassed 0 = .ok (.aload_n 0, 1) := by decide +kernel
theorem d_X8_isPassed_1 : decode cX8_isPassed 1 = .ok (.getfield 12, 3) := by decide +kernel
theorem d_X8_isPassed_4 : decode cX8_isPassed 4 = .ok (.iload_n 1, 1) := by decide +kernel
theorem d_X8_isPassed_5 : decode cX8_isPassed 5 = .ok (.invokevirtual 131, 3) := by decide +kernel
theorem d_X8_isPassed_8 : decode cX8_isPassed 8 = .ok (.ifCond .eq 38, 3) := by decide +kernel
theorem d_X8_isPassed_11 : decode cX8_isPassed 11 = .ok (.aload_n 0, 1) := by decide +kernel
theorem d_X8_isPassed_12 : decode cX8_isPassed 12 = .ok (.aload_n 0, 1) := by decide +kernel
theorem d_X8_isPassed_13 : decode cX8_isPassed 13 = .ok (.getfield 12, 3) := by decide +kernel
theorem d_X8_isPassed_16 : decode cX8_isPassed 16 = .ok (.getfield 134, 3) := by decide +kernel
theorem d_X8_isPassed_19 : decode cX8_isPassed 19 = .ok (.iload_n 1, 1) := by decide +kernel
theorem d_X8_isPassed_20 : decode cX8_isPassed 20 = .ok (.iaload, 1) := by decide +kernel
theorem d_X8_isPassed_21 : decode cX8_isPassed 21 = .ok (.iload_n 2, 1) := by decide +kernel
theorem d_X8_isPassed_22 : decode cX8_isPassed 22 = .ok (.invokevirtual 137, 3) := by decide +kernel
theorem d_X8_isPassed_25 : decode cX8_isPassed 25 = .ok (.aload_n 0, 1) := by decide +kernel
theorem d_X8_isPassed_26 : decode cX8_isPassed 26 = .ok (.aload_n 0, 1) := by decide +kernel
theorem d_X8_isPassed_27 : decode cX8_isPassed 27 = .ok (.getfield 12, 3) := by decide +kernel
theorem d_X8_isPassed_30 : decode cX8_isPassed 30 = .ok (.getfield 141, 3) := by decide +kernel
theorem d_X8_isPassed_33 : decode cX8_isPassed 33 = .ok (.iload_n 1, 1) := by decide +kernel
theorem d_X8_isPassed_34 : decode cX8_isPassed 34 = .ok (.iaload, 1) := by decide +kernel
theorem d_X8_isPassed_35 : decode cX8_isPassed 35 = .ok (.iload_n 2, 1) := by decide +kernel
theorem d_X8_isPassed_36 : decode cX8_isPassed 36 = .ok (.invokevirtual 137, 3) := by decide +kernel
theorem d_X8_isPassed_39 : decode cX8_isPassed 39 = .ok (.if_icmp .le 7, 3) := by decide +kernel
theorem d_X8_isPassed_42 : decode cX8_isPassed 42 = .ok (.iconst 1, 1) := by decide +kernel
theorem d_X8_isPassed_43 : decode cX8_isPassed 43 = .ok (.goto 4, 3) := by decide +kernel
theorem d_X8_isPassed_46 : decode cX8_isPassed 46 = .ok (.iconst 0, 1) := by decide +kernel
theorem d_X8_isPassed_47 : decode cX8_isPassed 47 = .ok (.ireturn, 1) := by decide +kernel
set_option maxRecDepth 100000 in
theorem L_X8_isPassed {p : Program} {l : Launch} {e : Env} {s : State} {m : MethodId} {args : Array Value} {below : List Frame} {meth : Method} {c : Code} {D : va_G} {ca : Nat → ClassId} {ad sx sy : Nat → Nat} {A : Nat → Prop} {Q : QT} (C0 : CX p s m args meth c cX8_isPassed 3 yX8_isPassed.cls D ca ad A) (hE : EX sx sy A s s.heap) (hr : meth.sig.returnType = (some .boolean)) (hno : ∀ x ∈ c.exceptionTable.toList, False) : R_X8_isPassed (JW p l e { frames := 12, cells := 0, slots := 6 * 0, locals := 246 } s m args below meth c 3 D ca ad A (vx_MQ below (Qn D ca ad A Q) (Qx D ca ad A Q) args s 0 (6 * 0) A) gz gz true) Q := ⟨s_aln C0 (d_X8_isPassed_0) hgz (s_gm C0 (j := 0) (c0 := 8) rfl gX8 (by decide) rfl rfl wg236 (d_X8_isPassed_1) hgz (s_iln C0 (d_X8_isPassed_4) hgz (s_callVN C0 hE (c_X6_hasMotion l) wg969 wn1058 wg968 ws57 wg3 ⟨by decide, by decide⟩ (by decide +kernel) (c0 := 6) rfl ⟨by decide, by decide⟩ ⟨by decide, by decide⟩ (d_X8_isPassed_5) (fun x hx => (hno x hx).elim) ⟨by decide, by decide⟩ ⟨by decide, by decide⟩ (s_zeq C0 (d_X8_isPassed_8) (by decide) hgz hgz (fun _ _ _ h => h) (s_aln C0 (d_X8_isPassed_11) hgz (s_aln C0 (d_X8_isPassed_12) hgz (s_gm C0 (j := 0) (c0 := 8) rfl gX8 (by decide) rfl rfl wg236 (d_X8_isPassed_13) hgz (s_grN C0 (j := 12) (c0 := 6) rfl gX6 (by decide) rfl rfl wn127 (d_X8_isPassed_16) hgz (s_iln C0 (d_X8_isPassed_19) hgz (s_ia C0 (d_X8_isPassed_20) hgz (s_iln C0 (d_X8_isPassed_21) hgz (s_callV C0 hE (c_X8_countOf l) wg917 wg1059 wg916 ws53 wg7 ⟨by decide, by decide⟩ (by decide +kernel) (c0 := 8) rfl ⟨by decide, by decide⟩ ⟨by decide, by decide⟩ (d_X8_isPassed_22) (fun x hx => (hno x hx).elim) ⟨by decide, by decide⟩ ⟨by decide, by decide⟩ (s_aln C0 (d_X8_isPassed_25) hgz (s_aln C0 (d_X8_isPassed_26) hgz (s_gm C0 (j := 0) (c0 := 8) rfl gX8 (by decide) rfl rfl wg236 (d_X8_isPassed_27) hgz (s_grN C0 (j := 13) (c0 := 6) rfl gX6 (by decide) rfl rfl wn130 (d_X8_isPassed_30) hgz (s_iln C0 (d_X8_isPassed_33) hgz (s_ia C0 (d_X8_isPassed_34) hgz (s_iln C0 (d_X8_isPassed_35) hgz (s_callV C0 hE (c_X8_countOf l) wg917 wg1059 wg916 ws53 wg7 ⟨by decide, by decide⟩ (by decide +kernel) (c0 := 8) rfl ⟨by decide, by decide⟩ ⟨by decide, by decide⟩ (d_X8_isPassed_36) (fun x hx => (hno x hx).elim) ⟨by decide, by decide⟩ ⟨by decide, by decide⟩ (s_cle C0 (d_X8_isPassed_39) (by decide) hgz hgz (fun _ _ _ h => h) (s_ic C0 (d_X8_isPassed_42) hgz (s_goto C0 (tgt := 47) (d_X8_isPassed_43) (by decide) hgz (fun _ _ _ h => h)) (okn rfl))))))))))))))))))))))),
  s_ic C0 (d_X8_isPassed_46) hgz (fun _ _ _ h => h) (okn rfl),
  s_rz C0 hr (d_X8_isPassed_47) ⟨by decide, by decide⟩⟩
theorem c_X8_isPassed (l : Launch) : Ctr l yX8_isPassed cX8_isPassed 3 (some .boolean) 12 246 0 (fun sx => (nf G_X8_isPassed)) := ctr_of (by decide) gz gz ⟨rfl, rfl⟩ (fun p e s m args below meth c D ca ad sx sy A Q as M C0 hE hr hno hF => P_X8_isPassed (L_X8_isPassed C0 hE hr hno) hF)
theorem wg1057 : Cond.code ⟨"WeighedHall$Sitting", "isPassed", "(II)Z"⟩ prog_10_method_14_code 3 (Option.some .boolean) ∈ GT := gt_mem 1177 (by decide +kernel) rfl
theorem wg1054 : Cond.methodLink "WeighedHall$Sitting" 153 ⟨"WeighedHall$Sitting", "isPassed", "(II)Z"⟩ ∈ GT := gt_mem 1174 (by decide +kernel) rfl
theorem wg1056 : Cond.instanceMethod ⟨"WeighedHall$Sitting", "isPassed", "(II)Z"⟩ ∈ GT := gt_mem 1176 (by decide +kernel) rfl
theorem ws67 : Cond.selects "WeighedHall$Sitting" ⟨"WeighedHall$Sitting", "isPassed", "(II)Z"⟩ ⟨"WeighedHall$Sitting", "isPassed", "(II)Z"⟩ ∈ GT := gt_mem 67 (by decide +kernel) rfl
theorem wn133 : Cond.fieldLinkNest "WeighedHall$Sitting" 150 "WeighedHall$Plan" "law" "I" "WeighedHall" ∈ NT := nt_mem 133 (by decide +kernel) rfl
theorem wn122 : Cond.fieldLinkNest "WeighedHall$Sitting" 147 "WeighedHall$Plan" "minute" "[I" "WeighedHall" ∈ NT := nt_mem 122 (by decide +kernel) rfl
theorem wn118 : Cond.fieldLinkNest "WeighedHall$Sitting" 144 "WeighedHall$Plan" "motions" "I" "WeighedHall" ∈ NT := nt_mem 118 (by decide +kernel) rfl
theorem d_X8_passedBitsAt_0 : decode cX8_passedBitsAt 0 = .ok (.iconst 0, 1) := by decide +kernel
theorem d_X8_passedBitsAt_1 : decode cX8_passedBitsAt 1 = .ok (.istore_n 2, 1) := by decide +kernel
theorem d_X8_passedBitsAt_2 : decode cX8_passedBitsAt 2 = .ok (.iconst 0, 1) := by decide +kernel
theorem d_X8_passedBitsAt_3 : decode cX8_passedBitsAt 3 = .ok (.istore_n 3, 1) := by decide +kernel
theorem d_X8_passedBitsAt_4 : decode cX8_passedBitsAt 4 = .ok (.iload_n 3, 1) := by decide +kernel
theorem d_X8_passedBitsAt_5 : decode cX8_passedBitsAt 5 = .ok (.aload_n 0, 1) := by decide +kernel
theorem d_X8_passedBitsAt_6 : decode cX8_passedBitsAt 6 = .ok (.getfield 12, 3) := by decide +kernel
theorem d_X8_passedBitsAt_9 : decode cX8_passedBitsAt 9 = .ok (.getfield 144, 3) := by decide +kernel
theorem d_X8_passedBitsAt_12 : decode cX8_passedBitsAt 12 = .ok (.if_icmp .ge 43, 3) := by decide +kernel
theorem d_X8_passedBitsAt_15 : decode cX8_passedBitsAt 15 = .ok (.aload_n 0, 1) := by decide +kernel
theorem d_X8_passedBitsAt_16 : decode cX8_passedBitsAt 16 = .ok (.getfield 12, 3) := by decide +kernel
theorem d_X8_passedBitsAt_19 : decode cX8_passedBitsAt 19 = .ok (.getfield 147, 3) := by decide +kernel
theorem d_X8_passedBitsAt_22 : decode cX8_passedBitsAt 22 = .ok (.iload_n 3, 1) := by decide +kernel
theorem d_X8_passedBitsAt_23 : decode cX8_passedBitsAt 23 = .ok (.iaload, 1) := by decide +kernel
theorem d_X8_passedBitsAt_24 : decode cX8_passedBitsAt 24 = .ok (.iload_n 1, 1) := by decide +kernel
theorem d_X8_passedBitsAt_25 : decode cX8_passedBitsAt 25 = .ok (.if_icmp .ne 24, 3) := by decide +kernel
theorem d_X8_passedBitsAt_28 : decode cX8_passedBitsAt 28 = .ok (.aload_n 0, 1) := by decide +kernel
theorem d_X8_passedBitsAt_29 : decode cX8_passedBitsAt 29 = .ok (.iload_n 3, 1) := by decide +kernel
theorem d_X8_passedBitsAt_30 : decode cX8_passedBitsAt 30 = .ok (.aload_n 0, 1) := by decide +kernel
theorem d_X8_passedBitsAt_31 : decode cX8_passedBitsAt 31 = .ok (.getfield 12, 3) := by decide +kernel
theorem d_X8_passedBitsAt_34 : decode cX8_passedBitsAt 34 = .ok (.getfield 150, 3) := by decide +kernel
theorem d_X8_passedBitsAt_37 : decode cX8_passedBitsAt 37 = .ok (.invokevirtual 153, 3) := by decide +kernel
theorem d_X8_passedBitsAt_40 : decode cX8_passedBitsAt 40 = .ok (.ifCond .eq 9, 3) := by decide +kernel
theorem d_X8_passedBitsAt_43 : decode cX8_passedBitsAt 43 = .ok (.iload_n 2, 1) := by decide +kernel
theorem d_X8_passedBitsAt_44 : decode cX8_passedBitsAt 44 = .ok (.iconst 1, 1) := by decide +kernel
theorem d_X8_passedBitsAt_45 : decode cX8_passedBitsAt 45 = .ok (.iload_n 3, 1) := by decide +kernel
theorem d_X8_passedBitsAt_46 : decode cX8_passedBitsAt 46 = .ok (.ishl, 1) := by decide +kernel
theorem d_X8_passedBitsAt_47 : decode cX8_passedBitsAt 47 = .ok (.ior, 1) := by decide +kernel
theorem d_X8_passedBitsAt_48 : decode cX8_passedBitsAt 48 = .ok (.istore_n 2, 1) := by decide +kernel
theorem d_X8_passedBitsAt_49 : decode cX8_passedBitsAt 49 = .ok (.iinc 3 1, 3) := by decide +kernel
theorem d_X8_passedBitsAt_52 : decode cX8_passedBitsAt 52 = .ok (.goto (-48), 3) := by decide +kernel
theorem d_X8_passedBitsAt_55 : decode cX8_passedBitsAt 55 = .ok (.iload_n 2, 1) := by decide +kernel
theorem d_X8_passedBitsAt_56 : decode cX8_passedBitsAt 56 = .ok (.ireturn, 1) := by decide +kernel
set_option maxRecDepth 100000 in
theorem L_X8_passedBitsAt {p : Program} {l : Launch} {e : Env} {s : State} {m : MethodId} {args : Array Value} {below : List Frame} {meth : Method} {c : Code} {D : va_G} {ca : Nat → ClassId} {ad sx sy : Nat → Nat} {A : Nat → Prop} {Q : QT} (C0 : CX p s m args meth c cX8_passedBitsAt 4 yX8_passedBitsAt.cls D ca ad A) (hE : EX sx sy A s s.heap) (hr : meth.sig.returnType = (some .int)) (hno : ∀ x ∈ c.exceptionTable.toList, False) : R_X8_passedBitsAt (JW p l e { frames := 13, cells := 0, slots := 6 * 0, locals := 268 } s m args below meth c 4 D ca ad A (vx_MQ below (Qn D ca ad A Q) (Qx D ca ad A Q) args s 0 (6 * 0) A) gz gz true) Q := ⟨s_ic C0 (d_X8_passedBitsAt_0) hgz (s_isn C0 (d_X8_passedBitsAt_1) hgz (s_ic C0 (d_X8_passedBitsAt_2) hgz (s_isn C0 (d_X8_passedBitsAt_3) hgz (fun _ _ _ h => h)) (okn rfl))) (okn rfl),
  s_iln C0 (d_X8_passedBitsAt_4) hgz (s_aln C0 (d_X8_passedBitsAt_5) hgz (s_gm C0 (j := 0) (c0 := 8) rfl gX8 (by decide) rfl rfl wg236 (d_X8_passedBitsAt_6) hgz (s_giN C0 (j := 10) (c0 := 6) rfl gX6 (by decide) rfl (by decide) wn118 (d_X8_passedBitsAt_9) hgz (s_cge C0 (d_X8_passedBitsAt_12) (by decide) hgz hgz (fun _ _ _ h => h) (s_aln C0 (d_X8_passedBitsAt_15) hgz (s_gm C0 (j := 0) (c0 := 8) rfl gX8 (by decide) rfl rfl wg236 (d_X8_passedBitsAt_16) hgz (s_grN C0 (j := 11) (c0 := 6) rfl gX6 (by decide) rfl rfl wn122 (d_X8_passedBitsAt_19) hgz (s_iln C0 (d_X8_passedBitsAt_22) hgz (s_ia C0 (d_X8_passedBitsAt_23) hgz (s_iln C0 (d_X8_passedBitsAt_24) hgz (s_cne C0 (d_X8_passedBitsAt_25) (by decide) hgz hgz (fun _ _ _ h => h) (s_aln C0 (d_X8_passedBitsAt_28) hgz (s_iln C0 (d_X8_passedBitsAt_29) hgz (s_aln C0 (d_X8_passedBitsAt_30) hgz (s_gm C0 (j := 0) (c0 := 8) rfl gX8 (by decide) rfl rfl wg236 (d_X8_passedBitsAt_31) hgz (s_giN C0 (j := 14) (c0 := 6) rfl gX6 (by decide) rfl (by decide) wn133 (d_X8_passedBitsAt_34) hgz (s_callV C0 hE (c_X8_isPassed l) wg1057 wg1054 wg1056 ws67 wg7 ⟨by decide, by decide⟩ (by decide +kernel) (c0 := 8) rfl ⟨by decide, by decide⟩ ⟨by decide, by decide⟩ (d_X8_passedBitsAt_37) (fun x hx => (hno x hx).elim) ⟨by decide, by decide⟩ ⟨by decide, by decide⟩ (s_zeq C0 (d_X8_passedBitsAt_40) (by decide) hgz hgz (fun _ _ _ h => h) (s_iln C0 (d_X8_passedBitsAt_43) hgz (s_ic C0 (d_X8_passedBitsAt_44) hgz (s_iln C0 (d_X8_passedBitsAt_45) hgz (s_shl C0 (d_X8_passedBitsAt_46) hgz (s_or C0 (d_X8_passedBitsAt_47) hgz (s_isn C0 (d_X8_passedBitsAt_48) hgz (fun _ _ _ h => h))))) (okn rfl))))))))))))))))))))),
  s_inc C0 (d_X8_passedBitsAt_49) hgz (s_goto C0 (tgt := 4) (d_X8_passedBitsAt_52) (by decide) hgz (fun _ _ _ h => h)),
  s_iln C0 (d_X8_passedBitsAt_55) hgz (s_ri C0 hr (d_X8_passedBitsAt_56) ⟨by decide, by decide⟩)⟩
theorem c_X8_passedBitsAt (l : Launch) : Ctr l yX8_passedBitsAt cX8_passedBitsAt 4 (some .int) 13 268 0 (fun sx => (nf G_X8_passedBitsAt)) := ctr_of (by decide) gz gz ⟨rfl, rfl⟩ (fun p e s m args below meth c D ca ad sx sy A Q as M C0 hE hr hno hF => P_X8_passedBitsAt (L_X8_passedBitsAt C0 hE hr hno) hF)
theorem wn1048 : Cond.methodLinkNest "WeighedHall" 248 ⟨"WeighedHall$Sitting", "begin", "(LWeighedHall$Plan;LWeighedHall$Loans;I)V"⟩ "WeighedHall" ∈ NT := nt_mem 1048 (by decide +kernel) rfl
theorem wg404 : Cond.fieldLink "WeighedHall" 65 "WeighedHall" "behind" "LWeighedHall$Sitting;" ∈ GT := gt_mem 524 (by decide +kernel) rfl
theorem wn840 : Cond.methodLinkNest "WeighedHall" 174 ⟨"WeighedHall$Plan", "hasThing", "(I)Z"⟩ "WeighedHall" ∈ NT := nt_mem 840 (by decide +kernel) rfl
theorem wg1053 : Cond.code ⟨"WeighedHall$Sitting", "passedBitsAt", "(I)I"⟩ prog_10_method_15_code 4 (Option.some .int) ∈ GT := gt_mem 1173 (by decide +kernel) rfl
theorem wn1050 : Cond.methodLinkNest "WeighedHall" 256 ⟨"WeighedHall$Sitting", "passedBitsAt", "(I)I"⟩ "WeighedHall" ∈ NT := nt_mem 1050 (by decide +kernel) rfl
theorem wg1052 : Cond.instanceMethod ⟨"WeighedHall$Sitting", "passedBitsAt", "(I)I"⟩ ∈ GT := gt_mem 1172 (by decide +kernel) rfl
theorem ws66 : Cond.selects "WeighedHall$Sitting" ⟨"WeighedHall$Sitting", "passedBitsAt", "(I)I"⟩ ⟨"WeighedHall$Sitting", "passedBitsAt", "(I)I"⟩ ∈ GT := gt_mem 66 (by decide +kernel) rfl
theorem wn1049 : Cond.methodLinkNest "WeighedHall" 252 ⟨"WeighedHall$Sitting", "goThrough", "(II)V"⟩ "WeighedHall" ∈ NT := nt_mem 1049 (by decide +kernel) rfl
theorem wg992 : Cond.code ⟨"WeighedHall$Chronicle", "passedBits", "(I)I"⟩ prog_5_method_7_code 4 (Option.some .int) ∈ GT := gt_mem 1112 (by decide +kernel) rfl
theorem wn989 : Cond.methodLinkNest "WeighedHall" 226 ⟨"WeighedHall$Chronicle", "passedBits", "(I)I"⟩ "WeighedHall" ∈ NT := nt_mem 989 (by decide +kernel) rfl
theorem wg991 : Cond.instanceMethod ⟨"WeighedHall$Chronicle", "passedBits", "(I)I"⟩ ∈ GT := gt_mem 1111 (by decide +kernel) rfl
theorem ws60 : Cond.selects "WeighedHall$Chronicle" ⟨"WeighedHall$Chronicle", "passedBits", "(I)I"⟩ ⟨"WeighedHall$Chronicle", "passedBits", "(I)I"⟩ ∈ GT := gt_mem 60 (by decide +kernel) rfl
theorem wn132 : Cond.fieldLinkNest "WeighedHall" 153 "WeighedHall$Plan" "law" "I" "WeighedHall" ∈ NT := nt_mem 132 (by decide +kernel) rfl
theorem wg844 : Cond.code ⟨"WeighedHall", "chronicled", "()LWeighedHall$Chronicle;"⟩ prog_1_method_36_code 1 (Option.some (.object "WeighedHall$Chronicle")) ∈ GT := gt_mem 964 (by decide +kernel) rfl
theorem wg841 : Cond.methodLink "WeighedHall" 186 ⟨"WeighedHall", "chronicled", "()LWeighedHall$Chronicle;"⟩ ∈ GT := gt_mem 961 (by decide +kernel) rfl
theorem wg843 : Cond.instanceMethod ⟨"WeighedHall", "chronicled", "()LWeighedHall$Chronicle;"⟩ ∈ GT := gt_mem 963 (by decide +kernel) rfl
theorem ws38 : Cond.selects "WeighedHall" ⟨"WeighedHall", "chronicled", "()LWeighedHall$Chronicle;"⟩ ⟨"WeighedHall", "chronicled", "()LWeighedHall$Chronicle;"⟩ ∈ GT := gt_mem 38 (by decide +kernel) rfl
theorem d_X10_decides_0 : decode cX10_decides 0 = .ok (.aload_n 0, 1) := by decide +kernel
theorem d_X10_decides_1 : decode cX10_decides 1 = .ok (.aload_n 0, 1) := by decide +kernel
theorem d_X10_decides_2 : decode cX10_decides 2 = .ok (.getfield 19, 3) := by decide +kernel
theorem d_X10_decides_5 : decode cX10_decides 5 = .ok (.iload_n 1, 1) := by decide +kernel
theorem d_X10_decides_6 : decode cX10_decides 6 = .ok (.invokevirtual 174, 3) := by decide +kernel
theorem d_X10_decides_9 : decode cX10_decides 9 = .ok (.invokevirtual 160, 3) := by decide +kernel
theorem d_X10_decides_12 : decode cX10_decides 12 = .ok (.aload_n 0, 1) := by decide +kernel
theorem d_X10_decides_13 : decode cX10_decides 13 = .ok (.getfield 65, 3) := by decide +kernel
theorem d_X10_decides_16 : decode cX10_decides 16 = .ok (.aload_n 0, 1) := by decide +kernel
theorem d_X10_decides_17 : decode cX10_decides 17 = .ok (.getfield 19, 3) := by decide +kernel
theorem d_X10_decides_20 : decode cX10_decides 20 = .ok (.aload_n 0, 1) := by decide +kernel
theorem d_X10_decides_21 : decode cX10_decides 21 = .ok (.getfield 29, 3) := by decide +kernel
theorem d_X10_decides_24 : decode cX10_decides 24 = .ok (.iload_n 1, 1) := by decide +kernel
theorem d_X10_decides_25 : decode cX10_decides 25 = .ok (.invokevirtual 248, 3) := by decide +kernel
theorem d_X10_decides_28 : decode cX10_decides 28 = .ok (.iconst 0, 1) := by decide +kernel
theorem d_X10_decides_29 : decode cX10_decides 29 = .ok (.istore_n 2, 1) := by decide +kernel
theorem d_X10_decides_30 : decode cX10_decides 30 = .ok (.iconst 0, 1) := by decide +kernel
theorem d_X10_decides_31 : decode cX10_decides 31 = .ok (.istore_n 3, 1) := by decide +kernel
theorem d_X10_decides_32 : decode cX10_decides 32 = .ok (.iload_n 3, 1) := by decide +kernel
theorem d_X10_decides_33 : decode cX10_decides 33 = .ok (.bipush 120, 2) := by decide +kernel
theorem d_X10_decides_35 : decode cX10_decides 35 = .ok (.if_icmp .ge 29, 3) := by decide +kernel
theorem d_X10_decides_38 : decode cX10_decides 38 = .ok (.aload_n 0, 1) := by decide +kernel
theorem d_X10_decides_39 : decode cX10_decides 39 = .ok (.getfield 65, 3) := by decide +kernel
theorem d_X10_decides_42 : decode cX10_decides 42 = .ok (.iload_n 3, 1) := by decide +kernel
theorem d_X10_decides_43 : decode cX10_decides 43 = .ok (.iload_n 3, 1) := by decide +kernel
theorem d_X10_decides_44 : decode cX10_decides 44 = .ok (.invokevirtual 252, 3) := by decide +kernel
theorem d_X10_decides_47 : decode cX10_decides 47 = .ok (.iload_n 2, 1) := by decide +kernel
theorem d_X10_decides_48 : decode cX10_decides 48 = .ok (.aload_n 0, 1) := by decide +kernel
theorem d_X10_decides_49 : decode cX10_decides 49 = .ok (.getfield 65, 3) := by decide +kernel
theorem d_X10_decides_52 : decode cX10_decides 52 = .ok (.iload_n 3, 1) := by decide +kernel
theorem d_X10_decides_53 : decode cX10_decides 53 = .ok (.invokevirtual 256, 3) := by decide +kernel
theorem d_X10_decides_56 : decode cX10_decides 56 = .ok (.ior, 1) := by decide +kernel
theorem d_X10_decides_57 : decode cX10_decides 57 = .ok (.istore_n 2, 1) := by decide +kernel
theorem d_X10_decides_58 : decode cX10_decides 58 = .ok (.iinc 3 1, 3) := by decide +kernel
theorem d_X10_decides_61 : decode cX10_decides 61 = .ok (.goto (-29), 3) := by decide +kernel
theorem d_X10_decides_64 : decode cX10_decides 64 = .ok (.iload_n 2, 1) := by decide +kernel
theorem d_X10_decides_65 : decode cX10_decides 65 = .ok (.aload_n 0, 1) := by decide +kernel
theorem d_X10_decides_66 : decode cX10_decides 66 = .ok (.invokevirtual 186, 3) := by decide +kernel
theorem d_X10_decides_69 : decode cX10_decides 69 = .ok (.aload_n 0, 1) := by decide +kernel
theorem d_X10_decides_70 : decode cX10_decides 70 = .ok (.getfield 19, 3) := by decide +kernel
theorem d_X10_decides_73 : decode cX10_decides 73 = .ok (.getfield 153, 3) := by decide +kernel
theorem d_X10_decides_76 : decode cX10_decides 76 = .ok (.invokevirtual 226, 3) := by decide +kernel
theorem d_X10_decides_79 : decode cX10_decides 79 = .ok (.ixor, 1) := by decide +kernel
theorem d_X10_decides_80 : decode cX10_decides 80 = .ok (.ireturn, 1) := by decide +kernel
set_option maxRecDepth 100000 in
theorem L_X10_decides {p : Program} {l : Launch} {e : Env} {s : State} {m : MethodId} {args : Array Value} {below : List Frame} {meth : Method} {c : Code} {D : va_G} {ca : Nat → ClassId} {ad sx sy : Nat → Nat} {A : Nat → Prop} {Q : QT} (hl0 : l.stackTraces = false) (C0 : CX p s m args meth c cX10_decides 4 yX10_decides.cls D ca ad A) (hE : EX sx sy A s s.heap) (hr : meth.sig.returnType = (some .int)) (hno : ∀ x ∈ c.exceptionTable.toList, False) : R_X10_decides (JW p l e { frames := 16, cells := 1, slots := 6 * 1, locals := 336 } s m args below meth c 4 D ca ad A (vx_MQ below (Qn D ca ad A Q) (Qx D ca ad A Q) args s 1 (6 * 1) A) (gl [(9, 1)]) (gl6 [(9, 1)]) true) Q := ⟨s_aln C0 (d_X10_decides_0) (hgq rfl) (s_aln C0 (d_X10_decides_1) (hgq rfl) (s_gm C0 (j := 1) (c0 := 10) rfl gX10 (by decide) rfl rfl wg394 (d_X10_decides_2) (hgq rfl) (s_iln C0 (d_X10_decides_5) (hgq rfl) (s_callVN C0 hE (c_X6_hasThing l) wg791 wn840 wg790 ws35 wg3 ⟨by decide, by decide⟩ (by decide +kernel) (c0 := 6) rfl ⟨by decide, by decide⟩ ⟨by decide, by decide⟩ (d_X10_decides_6) (fun x hx => (hno x hx).elim) ⟨by decide, by decide⟩ ⟨by decide, by decide⟩ (s_callV C0 hE (c_X10_needElement l hl0) wg815 wg812 wg814 ws37 wg1 ⟨by decide, by decide⟩ (by decide +kernel) (c0 := 10) rfl ⟨by decide, by decide⟩ ⟨by decide, by decide⟩ (d_X10_decides_9) (fun x hx => (hno x hx).elim) ⟨by decide, by decide⟩ ⟨by decide, by decide⟩ (s_aln C0 (d_X10_decides_12) (hgq rfl) (s_gr C0 (j := 11) (c0 := 10) rfl gX10 (by decide) rfl rfl wg404 (d_X10_decides_13) (hgq rfl) (s_aln C0 (d_X10_decides_16) (hgq rfl) (s_gm C0 (j := 1) (c0 := 10) rfl gX10 (by decide) rfl rfl wg394 (d_X10_decides_17) (hgq rfl) (s_aln C0 (d_X10_decides_20) (hgq rfl) (s_gm C0 (j := 3) (c0 := 10) rfl gX10 (by decide) rfl rfl wg396 (d_X10_decides_21) (hgq rfl) (s_iln C0 (d_X10_decides_24) (hgq rfl) (s_callVN C0 hE (c_X8_begin l) wg852 wn1048 wg851 ws40 wg7 ⟨by decide, by decide⟩ (by decide +kernel) (c0 := 8) rfl ⟨by decide, by decide⟩ ⟨by decide, by decide⟩ (d_X10_decides_25) (fun x hx => (hno x hx).elim) ⟨by decide, by decide⟩ ⟨by decide, by decide⟩ (s_ic C0 (d_X10_decides_28) (hgq rfl) (s_isn C0 (d_X10_decides_29) (hgq rfl) (s_ic C0 (d_X10_decides_30) (hgq rfl) (s_isn C0 (d_X10_decides_31) (hgq rfl) (fun _ _ _ h => h)) (okn rfl))) (okn rfl))))))))))))))),
  s_iln C0 (d_X10_decides_32) (hgq rfl) (s_bi C0 (d_X10_decides_33) (hgq rfl) (s_cge C0 (d_X10_decides_35) (by decide) (hgq rfl) (hgq rfl) (fun _ _ _ h => h) (s_aln C0 (d_X10_decides_38) (hgq rfl) (s_gr C0 (j := 11) (c0 := 10) rfl gX10 (by decide) rfl rfl wg404 (d_X10_decides_39) (hgq rfl) (s_iln C0 (d_X10_decides_42) (hgq rfl) (s_iln C0 (d_X10_decides_43) (hgq rfl) (s_callVN C0 hE (c_X8_goThrough l) wg871 wn1049 wg870 ws43 wg7 ⟨by decide, by decide⟩ (by decide +kernel) (c0 := 8) rfl ⟨by decide, by decide⟩ ⟨by decide, by decide⟩ (d_X10_decides_44) (fun x hx => (hno x hx).elim) ⟨by decide, by decide⟩ ⟨by decide, by decide⟩ (s_iln C0 (d_X10_decides_47) (hgq rfl) (s_aln C0 (d_X10_decides_48) (hgq rfl) (s_gr C0 (j := 11) (c0 := 10) rfl gX10 (by decide) rfl rfl wg404 (d_X10_decides_49) (hgq rfl) (s_iln C0 (d_X10_decides_52) (hgq rfl) (s_callVN C0 hE (c_X8_passedBitsAt l) wg1053 wn1050 wg1052 ws66 wg7 ⟨by decide, by decide⟩ (by decide +kernel) (c0 := 8) rfl ⟨by decide, by decide⟩ ⟨by decide, by decide⟩ (d_X10_decides_53) (fun x hx => (hno x hx).elim) ⟨by decide, by decide⟩ ⟨by decide, by decide⟩ (s_or C0 (d_X10_decides_56) (hgq rfl) (s_isn C0 (d_X10_decides_57) (hgq rfl) (s_inc C0 (d_X10_decides_58) (hgq rfl) (s_goto C0 (tgt := 32) (d_X10_decides_61) (by decide) (hgq rfl) (fun _ _ _ h => h)))))))))))))))) (okn rfl) rfl),
  s_iln C0 (d_X10_decides_64) (hgq rfl) (s_aln C0 (d_X10_decides_65) (hgq rfl) (s_callV C0 hE (c_X10_chronicled l) wg844 wg841 wg843 ws38 wg1 ⟨by decide, by decide⟩ (by decide +kernel) (c0 := 10) rfl ⟨by decide, by decide⟩ ⟨by decide, by decide⟩ (d_X10_decides_66) (fun x hx => (hno x hx).elim) ⟨by decide, by decide⟩ ⟨by decide, by decide⟩ (s_aln C0 (d_X10_decides_69) (hgq rfl) (s_gm C0 (j := 1) (c0 := 10) rfl gX10 (by decide) rfl rfl wg394 (d_X10_decides_70) (hgq rfl) (s_giN C0 (j := 14) (c0 := 6) rfl gX6 (by decide) rfl (by decide) wn132 (d_X10_decides_73) (hgq rfl) (s_callVN C0 hE (c_X3_passedBits l) wg992 wn989 wg991 ws60 wg6 ⟨by decide, by decide⟩ (by decide +kernel) (c0 := 3) rfl ⟨by decide, by decide⟩ ⟨by decide, by decide⟩ (d_X10_decides_76) (fun x hx => (hno x hx).elim) ⟨by decide, by decide⟩ ⟨by decide, by decide⟩ (s_xor C0 (d_X10_decides_79) (hgq rfl) (s_ri C0 hr (d_X10_decides_80) ⟨by decide, by decide⟩))))))))⟩
theorem c_X10_decides (l : Launch) (hl0 : l.stackTraces = false) : Ctr l yX10_decides cX10_decides 4 (some .int) 16 336 1 (fun sx => F_X10_decides) := ctr_of (by decide) (gl [(9, 1)]) (gl6 [(9, 1)]) ⟨rfl, rfl⟩ (fun p e s m args below meth c D ca ad sx sy A Q as M C0 hE hr hno hF => P_X10_decides (L_X10_decides hl0 C0 hE hr hno) hF)
theorem wn48 : Cond.fieldLinkNest "WeighedHall" 141 "WeighedHall$Tape" "faultPlace" "I" "WeighedHall" ∈ NT := nt_mem 48 (by decide +kernel) rfl
theorem d_X10_fault_0 : decode cX10_fault 0 = .ok (.aload_n 0, 1) := by decide +kernel
theorem d_X10_fault_1 : decode cX10_fault 1 = .ok (.getfield 10, 3) := by decide +kernel
theorem d_X10_fault_4 : decode cX10_fault 4 = .ok (.getfield 141, 3) := by decide +kernel
theorem d_X10_fault_7 : decode cX10_fault 7 = .ok (.ireturn, 1) := by decide +kernel
set_option maxRecDepth 100000 in
theorem L_X10_fault {p : Program} {l : Launch} {e : Env} {s : State} {m : MethodId} {args : Array Value} {below : List Frame} {meth : Method} {c : Code} {D : va_G} {ca : Nat → ClassId} {ad sx sy : Nat → Nat} {A : Nat → Prop} {Q : QT} (C0 : CX p s m args meth c cX10_fault 1 yX10_fault.cls D ca ad A) (hE : EX sx sy A s s.heap) (hr : meth.sig.returnType = (some .int)) (hno : ∀ x ∈ c.exceptionTable.toList, False) : R_X10_fault (JW p l e { frames := 10, cells := 0, slots := 6 * 0, locals := 200 } s m args below meth c 1 D ca ad A (vx_MQ below (Qn D ca ad A Q) (Qx D ca ad A Q) args s 0 (6 * 0) A) gz gz true) Q := s_aln C0 (d_X10_fault_0) hgz (s_gr C0 (j := 0) (c0 := 10) rfl gX10 (by decide) rfl rfl wg393 (d_X10_fault_1) hgz (s_giN C0 (j := 6) (c0 := 9) rfl gX9 (by decide) rfl (by decide) wn48 (d_X10_fault_4) hgz (s_ri C0 hr (d_X10_fault_7) ⟨by decide, by decide⟩)))
theorem c_X10_fault (l : Launch) : Ctr l yX10_fault cX10_fault 1 (some .int) 10 200 0 (fun sx => (nf G_X10_fault)) := ctr_of (by decide) gz gz ⟨rfl, rfl⟩ (fun p e s m args below meth c D ca ad sx sy A Q as M C0 hE hr hno hF => P_X10_fault (L_X10_fault C0 hE hr hno) hF)
theorem wg41 : Cond.fieldLink "WeighedHall$Tape" 22 "WeighedHall$Tape" "size" "I" ∈ GT := gt_mem 161 (by decide +kernel) rfl
theorem wg39 : Cond.fieldLink "WeighedHall$Tape" 9 "WeighedHall$Tape" "bytes" "[B" ∈ GT := gt_mem 159 (by decide +kernel) rfl
theorem d_X9_put_0 : decode cX9_put 0 = .ok (.bipush 24, 2) := by decide +kernel
theorem d_X9_put_2 : decode cX9_put 2 = .ok (.istore_n 2, 1) := by decide +kernel
theorem d_X9_put_3 : decode cX9_put 3 = .ok (.iload_n 2, 1) := by decide +kernel
theorem d_X9_put_4 : decode cX9_put 4 = .ok (.ifCond .lt 42, 3) := by decide +kernel
theorem d_X9_put_7 : decode cX9_put 7 = .ok (.aload_n 0, 1) := by decide +kernel
theorem d_X9_put_8 : decode cX9_put 8 = .ok (.getfield 22, 3) := by decide +kernel
theorem d_X9_put_11 : decode cX9_put 11 = .ok (.sipush 600, 3) := by decide +kernel
theorem d_X9_put_14 : decode cX9_put 14 = .ok (.if_icmp .ge 26, 3) := by decide +kernel
theorem d_X9_put_17 : decode cX9_put 17 = .ok (.aload_n 0, 1) := by decide +kernel
theorem d_X9_put_18 : decode cX9_put 18 = .ok (.getfield 9, 3) := by decide +kernel
theorem d_X9_put_21 : decode cX9_put 21 = .ok (.aload_n 0, 1) := by decide +kernel
theorem d_X9_put_22 : decode cX9_put 22 = .ok (.getfield 22, 3) := by decide +kernel
theorem d_X9_put_25 : decode cX9_put 25 = .ok (.iload_n 1, 1) := by decide +kernel
theorem d_X9_put_26 : decode cX9_put 26 = .ok (.iload_n 2, 1) := by decide +kernel
theorem d_X9_put_27 : decode cX9_put 27 = .ok (.ishr, 1) := by decide +kernel
theorem d_X9_put_28 : decode cX9_put 28 = .ok (.i2b, 1) := by decide +kernel
theorem d_X9_put_29 : decode cX9_put 29 = .ok (.bastore, 1) := by decide +kernel
theorem d_X9_put_30 : decode cX9_put 30 = .ok (.aload_n 0, 1) := by decide +kernel
theorem d_X9_put_31 : decode cX9_put 31 = .ok (.dup, 1) := by decide +kernel
theorem d_X9_put_32 : decode cX9_put 32 = .ok (.getfield 22, 3) := by decide +kernel
theorem d_X9_put_35 : decode cX9_put 35 = .ok (.iconst 1, 1) := by decide +kernel
theorem d_X9_put_36 : decode cX9_put 36 = .ok (.iadd, 1) := by decide +kernel
theorem d_X9_put_37 : decode cX9_put 37 = .ok (.putfield 22, 3) := by decide +kernel
theorem d_X9_put_40 : decode cX9_put 40 = .ok (.iinc 2 (-8), 3) := by decide +kernel
theorem d_X9_put_43 : decode cX9_put 43 = .ok (.goto (-40), 3) := by decide +kernel
theorem d_X9_put_46 : decode cX9_put 46 = .ok (.return_, 1) := by decide +kernel
set_option maxRecDepth 100000 in
theorem L_X9_put {p : Program} {l : Launch} {e : Env} {s : State} {m : MethodId} {args : Array Value} {below : List Frame} {meth : Method} {c : Code} {D : va_G} {ca : Nat → ClassId} {ad sx sy : Nat → Nat} {A : Nat → Prop} {Q : QT} (C0 : CX p s m args meth c cX9_put 3 yX9_put.cls D ca ad A) (hE : EX sx sy A s s.heap) (hr : meth.sig.returnType = none) (hno : ∀ x ∈ c.exceptionTable.toList, False) : R_X9_put (JW p l e { frames := 10, cells := 0, slots := 6 * 0, locals := 200 } s m args below meth c 3 D ca ad A (vx_MQ below (Qn D ca ad A Q) (Qx D ca ad A Q) args s 0 (6 * 0) A) gz gz true) Q := ⟨s_bi C0 (d_X9_put_0) hgz (s_isn C0 (d_X9_put_2) hgz (fun _ _ _ h => h)) (okn rfl) rfl,
  s_iln C0 (d_X9_put_3) hgz (s_zlt C0 (d_X9_put_4) (by decide) hgz hgz (fun _ _ _ h => h) (s_aln C0 (d_X9_put_7) hgz (s_gi C0 (j := 1) (c0 := 9) rfl gX9 (by decide) rfl (by decide) wg41 (d_X9_put_8) hgz (s_si C0 (d_X9_put_11) hgz (s_cge C0 (d_X9_put_14) (by decide) hgz hgz (fun _ _ _ h => h) (s_aln C0 (d_X9_put_17) hgz (s_gr C0 (j := 0) (c0 := 9) rfl gX9 (by decide) rfl rfl wg39 (d_X9_put_18) hgz (s_aln C0 (d_X9_put_21) hgz (s_gi C0 (j := 1) (c0 := 9) rfl gX9 (by decide) rfl (by decide) wg41 (d_X9_put_22) hgz (s_iln C0 (d_X9_put_25) hgz (s_iln C0 (d_X9_put_26) hgz (s_shr C0 (d_X9_put_27) hgz (s_i2b C0 (d_X9_put_28) hgz (s_bax C0 (d_X9_put_29) hgz (s_aln C0 (d_X9_put_30) hgz (s_dup C0 (d_X9_put_31) hgz (s_gi C0 (j := 1) (c0 := 9) rfl gX9 (by decide) rfl (by decide) wg41 (d_X9_put_32) hgz (s_ic C0 (d_X9_put_35) hgz (s_add C0 (d_X9_put_36) hgz (s_pi C0 (j := 1) (c0 := 9) rfl gX9 tyX9_ok nmX9 (by decide) rfl (by decide) rfl rfl wg41 (d_X9_put_37) hgz (fun _ _ _ h => h))) (okn rfl))))))))))))))) (okn rfl) rfl)))),
  s_inc C0 (d_X9_put_40) hgz (s_goto C0 (tgt := 3) (d_X9_put_43) (by decide) hgz (fun _ _ _ h => h)),
  s_rv C0 hr (d_X9_put_46) ⟨by decide, by decide⟩⟩
theorem c_X9_put (l : Launch) : Ctr l yX9_put cX9_put 3 none 10 200 0 (fun sx => (nf G_X9_put)) := ctr_of (by decide) gz gz ⟨rfl, rfl⟩ (fun p e s m args below meth c D ca ad sx sy A Q as M C0 hE hr hno hF => P_X9_put (L_X9_put C0 hE hr hno) hF)
theorem wg455 : Cond.code ⟨"WeighedHall$Tape", "put", "(I)V"⟩ prog_11_method_2_code 3 (Option.none : Option FieldType) ∈ GT := gt_mem 575 (by decide +kernel) rfl
theorem wg2 : Cond.initialized "WeighedHall$Tape" ∈ GT := gt_mem 122 (by decide +kernel) rfl
theorem wn452 : Cond.methodLinkNest "WeighedHall" 100 ⟨"WeighedHall$Tape", "put", "(I)V"⟩ "WeighedHall" ∈ NT := nt_mem 452 (by decide +kernel) rfl
theorem wg454 : Cond.instanceMethod ⟨"WeighedHall$Tape", "put", "(I)V"⟩ ∈ GT := gt_mem 574 (by decide +kernel) rfl
theorem ws0 : Cond.selects "WeighedHall$Tape" ⟨"WeighedHall$Tape", "put", "(I)V"⟩ ⟨"WeighedHall$Tape", "put", "(I)V"⟩ ∈ GT := gt_mem 0 (by decide +kernel) rfl
theorem d_X10_feed_0 : decode cX10_feed 0 = .ok (.aload_n 0, 1) := by decide +kernel
theorem d_X10_feed_1 : decode cX10_feed 1 = .ok (.getfield 10, 3) := by decide +kernel
theorem d_X10_feed_4 : decode cX10_feed 4 = .ok (.getfield 96, 3) := by decide +kernel
theorem d_X10_feed_7 : decode cX10_feed 7 = .ok (.bipush 20, 2) := by decide +kernel
theorem d_X10_feed_9 : decode cX10_feed 9 = .ok (.iadd, 1) := by decide +kernel
theorem d_X10_feed_10 : decode cX10_feed 10 = .ok (.sipush 600, 3) := by decide +kernel
theorem d_X10_feed_13 : decode cX10_feed 13 = .ok (.if_icmp .le 5, 3) := by decide +kernel
theorem d_X10_feed_16 : decode cX10_feed 16 = .ok (.iconst (-1), 1) := by decide +kernel
theorem d_X10_feed_17 : decode cX10_feed 17 = .ok (.ireturn, 1) := by decide +kernel
theorem d_X10_feed_18 : decode cX10_feed 18 = .ok (.aload_n 0, 1) := by decide +kernel
theorem d_X10_feed_19 : decode cX10_feed 19 = .ok (.getfield 10, 3) := by decide +kernel
theorem d_X10_feed_22 : decode cX10_feed 22 = .ok (.iload_n 1, 1) := by decide +kernel
theorem d_X10_feed_23 : decode cX10_feed 23 = .ok (.invokevirtual 100, 3) := by decide +kernel
theorem d_X10_feed_26 : decode cX10_feed 26 = .ok (.aload_n 0, 1) := by decide +kernel
theorem d_X10_feed_27 : decode cX10_feed 27 = .ok (.getfield 10, 3) := by decide +kernel
theorem d_X10_feed_30 : decode cX10_feed 30 = .ok (.iload_n 2, 1) := by decide +kernel
theorem d_X10_feed_31 : decode cX10_feed 31 = .ok (.invokevirtual 100, 3) := by decide +kernel
theorem d_X10_feed_34 : decode cX10_feed 34 = .ok (.aload_n 0, 1) := by decide +kernel
theorem d_X10_feed_35 : decode cX10_feed 35 = .ok (.getfield 10, 3) := by decide +kernel
theorem d_X10_feed_38 : decode cX10_feed 38 = .ok (.iload_n 3, 1) := by decide +kernel
theorem d_X10_feed_39 : decode cX10_feed 39 = .ok (.invokevirtual 100, 3) := by decide +kernel
theorem d_X10_feed_42 : decode cX10_feed 42 = .ok (.aload_n 0, 1) := by decide +kernel
theorem d_X10_feed_43 : decode cX10_feed 43 = .ok (.getfield 10, 3) := by decide +kernel
theorem d_X10_feed_46 : decode cX10_feed 46 = .ok (.iload 4, 2) := by decide +kernel
theorem d_X10_feed_48 : decode cX10_feed 48 = .ok (.invokevirtual 100, 3) := by decide +kernel
theorem d_X10_feed_51 : decode cX10_feed 51 = .ok (.aload_n 0, 1) := by decide +kernel
theorem d_X10_feed_52 : decode cX10_feed 52 = .ok (.getfield 10, 3) := by decide +kernel
theorem d_X10_feed_55 : decode cX10_feed 55 = .ok (.iload 5, 2) := by decide +kernel
theorem d_X10_feed_57 : decode cX10_feed 57 = .ok (.invokevirtual 100, 3) := by decide +kernel
theorem d_X10_feed_60 : decode cX10_feed 60 = .ok (.aload_n 0, 1) := by decide +kernel
theorem d_X10_feed_61 : decode cX10_feed 61 = .ok (.getfield 10, 3) := by decide +kernel
theorem d_X10_feed_64 : decode cX10_feed 64 = .ok (.getfield 96, 3) := by decide +kernel
theorem d_X10_feed_67 : decode cX10_feed 67 = .ok (.ireturn, 1) := by decide +kernel
set_option maxRecDepth 100000 in
theorem L_X10_feed {p : Program} {l : Launch} {e : Env} {s : State} {m : MethodId} {args : Array Value} {below : List Frame} {meth : Method} {c : Code} {D : va_G} {ca : Nat → ClassId} {ad sx sy : Nat → Nat} {A : Nat → Prop} {Q : QT} (C0 : CX p s m args meth c cX10_feed 6 yX10_feed.cls D ca ad A) (hE : EX sx sy A s s.heap) (hr : meth.sig.returnType = (some .int)) (hno : ∀ x ∈ c.exceptionTable.toList, False) : R_X10_feed (JW p l e { frames := 11, cells := 0, slots := 6 * 0, locals := 222 } s m args below meth c 6 D ca ad A (vx_MQ below (Qn D ca ad A Q) (Qx D ca ad A Q) args s 0 (6 * 0) A) gz gz true) Q := ⟨s_aln C0 (d_X10_feed_0) hgz (s_gr C0 (j := 0) (c0 := 10) rfl gX10 (by decide) rfl rfl wg393 (d_X10_feed_1) hgz (s_giN C0 (j := 1) (c0 := 9) rfl gX9 (by decide) rfl (by decide) wn40 (d_X10_feed_4) hgz (s_bi C0 (d_X10_feed_7) hgz (s_add C0 (d_X10_feed_9) hgz (s_si C0 (d_X10_feed_10) hgz (s_cle C0 (d_X10_feed_13) (by decide) hgz hgz (fun _ _ _ h => h) (s_ic C0 (d_X10_feed_16) hgz (s_ri C0 hr (d_X10_feed_17) ⟨by decide, by decide⟩) (okn rfl))) (okn rfl) rfl)) (okn rfl) rfl))),
  s_aln C0 (d_X10_feed_18) hgz (s_gr C0 (j := 0) (c0 := 10) rfl gX10 (by decide) rfl rfl wg393 (d_X10_feed_19) hgz (s_iln C0 (d_X10_feed_22) hgz (s_callVN C0 hE (c_X9_put l) wg455 wn452 wg454 ws0 wg2 ⟨by decide, by decide⟩ (by decide +kernel) (c0 := 9) rfl ⟨by decide, by decide⟩ ⟨by decide, by decide⟩ (d_X10_feed_23) (fun x hx => (hno x hx).elim) ⟨by decide, by decide⟩ ⟨by decide, by decide⟩ (s_aln C0 (d_X10_feed_26) hgz (s_gr C0 (j := 0) (c0 := 10) rfl gX10 (by decide) rfl rfl wg393 (d_X10_feed_27) hgz (s_iln C0 (d_X10_feed_30) hgz (s_callVN C0 hE (c_X9_put l) wg455 wn452 wg454 ws0 wg2 ⟨by decide, by decide⟩ (by decide +kernel) (c0 := 9) rfl ⟨by decide, by decide⟩ ⟨by decide, by decide⟩ (d_X10_feed_31) (fun x hx => (hno x hx).elim) ⟨by decide, by decide⟩ ⟨by decide, by decide⟩ (s_aln C0 (d_X10_feed_34) hgz (s_gr C0 (j := 0) (c0 := 10) rfl gX10 (by decide) rfl rfl wg393 (d_X10_feed_35) hgz (s_iln C0 (d_X10_feed_38) hgz (s_callVN C0 hE (c_X9_put l) wg455 wn452 wg454 ws0 wg2 ⟨by decide, by decide⟩ (by decide +kernel) (c0 := 9) rfl ⟨by decide, by decide⟩ ⟨by decide, by decide⟩ (d_X10_feed_39) (fun x hx => (hno x hx).elim) ⟨by decide, by decide⟩ ⟨by decide, by decide⟩ (s_aln C0 (d_X10_feed_42) hgz (s_gr C0 (j := 0) (c0 := 10) rfl gX10 (by decide) rfl rfl wg393 (d_X10_feed_43) hgz (s_il C0 (d_X10_feed_46) hgz (s_callVN C0 hE (c_X9_put l) wg455 wn452 wg454 ws0 wg2 ⟨by decide, by decide⟩ (by decide +kernel) (c0 := 9) rfl ⟨by decide, by decide⟩ ⟨by decide, by decide⟩ (d_X10_feed_48) (fun x hx => (hno x hx).elim) ⟨by decide, by decide⟩ ⟨by decide, by decide⟩ (s_aln C0 (d_X10_feed_51) hgz (s_gr C0 (j := 0) (c0 := 10) rfl gX10 (by decide) rfl rfl wg393 (d_X10_feed_52) hgz (s_il C0 (d_X10_feed_55) hgz (s_callVN C0 hE (c_X9_put l) wg455 wn452 wg454 ws0 wg2 ⟨by decide, by decide⟩ (by decide +kernel) (c0 := 9) rfl ⟨by decide, by decide⟩ ⟨by decide, by decide⟩ (d_X10_feed_57) (fun x hx => (hno x hx).elim) ⟨by decide, by decide⟩ ⟨by decide, by decide⟩ (s_aln C0 (d_X10_feed_60) hgz (s_gr C0 (j := 0) (c0 := 10) rfl gX10 (by decide) rfl rfl wg393 (d_X10_feed_61) hgz (s_giN C0 (j := 1) (c0 := 9) rfl gX9 (by decide) rfl (by decide) wn40 (d_X10_feed_64) hgz (s_ri C0 hr (d_X10_feed_67) ⟨by decide, by decide⟩)))))))))))))))))))))))⟩
theorem c_X10_feed (l : Launch) : Ctr l yX10_feed cX10_feed 6 (some .int) 11 222 0 (fun sx => (nf G_X10_feed)) := ctr_of (by decide) gz gz ⟨rfl, rfl⟩ (fun p e s m args below meth c D ca ad sx sy A Q as M C0 hE hr hno hF => P_X10_feed (L_X10_feed C0 hE hr hno) hF)
theorem wn367 : Cond.fieldLinkNest "WeighedHall" 296 "WeighedHall$Hollows" "known" "Z" "WeighedHall" ∈ NT := nt_mem 367 (by decide +kernel) rfl
theorem wg408 : Cond.fieldLink "WeighedHall" 92 "WeighedHall" "hollows" "LWeighedHall$Hollows;" ∈ GT := gt_mem 528 (by decide +kernel) rfl
theorem d_X10_startAnew_0 : decode cX10_startAnew 0 = .ok (.aload_n 0, 1) := by decide +kernel
theorem d_X10_startAnew_1 : decode cX10_startAnew 1 = .ok (.getfield 54, 3) := by decide +kernel
theorem d_X10_startAnew_4 : decode cX10_startAnew 4 = .ok (.iconst 0, 1) := by decide +kernel
theorem d_X10_startAnew_5 : decode cX10_startAnew 5 = .ok (.putfield 353, 3) := by decide +kernel
theorem d_X10_startAnew_8 : decode cX10_startAnew 8 = .ok (.aload_n 0, 1) := by decide +kernel
theorem d_X10_startAnew_9 : decode cX10_startAnew 9 = .ok (.getfield 92, 3) := by decide +kernel
theorem d_X10_startAnew_12 : decode cX10_startAnew 12 = .ok (.iconst 0, 1) := by decide +kernel
theorem d_X10_startAnew_13 : decode cX10_startAnew 13 = .ok (.putfield 296, 3) := by decide +kernel
theorem d_X10_startAnew_16 : decode cX10_startAnew 16 = .ok (.return_, 1) := by decide +kernel
set_option maxRecDepth 100000 in
theorem L_X10_startAnew {p : Program} {l : Launch} {e : Env} {s : State} {m : MethodId} {args : Array Value} {below : List Frame} {meth : Method} {c : Code} {D : va_G} {ca : Nat → ClassId} {ad sx sy : Nat → Nat} {A : Nat → Prop} {Q : QT} (C0 : CX p s m args meth c cX10_startAnew 1 yX10_startAnew.cls D ca ad A) (hE : EX sx sy A s s.heap) (hr : meth.sig.returnType = none) (hno : ∀ x ∈ c.exceptionTable.toList, False) : R_X10_startAnew (JW p l e { frames := 10, cells := 0, slots := 6 * 0, locals := 200 } s m args below meth c 1 D ca ad A (vx_MQ below (Qn D ca ad A Q) (Qx D ca ad A Q) args s 0 (6 * 0) A) gz gz true) Q := s_aln C0 (d_X10_startAnew_0) hgz (s_gr C0 (j := 9) (c0 := 10) rfl gX10 (by decide) rfl rfl wg402 (d_X10_startAnew_1) hgz (s_ic C0 (d_X10_startAnew_4) hgz (s_pzN C0 (j := 4) (c0 := 3) rfl gX3 tyX3_ok nmX3 (by decide) rfl (by decide) rfl rfl wn275 (d_X10_startAnew_5) hgz (s_aln C0 (d_X10_startAnew_8) hgz (s_gr C0 (j := 15) (c0 := 10) rfl gX10 (by decide) rfl rfl wg408 (d_X10_startAnew_9) hgz (s_ic C0 (d_X10_startAnew_12) hgz (s_pzN C0 (j := 0) (c0 := 4) rfl gX4 tyX4_ok nmX4 (by decide) rfl (by decide) rfl rfl wn367 (d_X10_startAnew_13) hgz (s_rv C0 hr (d_X10_startAnew_16) ⟨by decide, by decide⟩)) (okn rfl))))) (okn rfl)))
theorem c_X10_startAnew (l : Launch) : Ctr l yX10_startAnew cX10_startAnew 1 none 10 200 0 (fun sx => (nf G_X10_startAnew)) := ctr_of (by decide) gz gz ⟨rfl, rfl⟩ (fun p e s m args below meth c D ca ad sx sy A Q as M C0 hE hr hno hF => P_X10_startAnew (L_X10_startAnew C0 hE hr hno) hF)
theorem wg523 : Cond.code ⟨"WeighedHall", "startAnew", "()V"⟩ prog_1_method_35_code 1 (Option.none : Option FieldType) ∈ GT := gt_mem 643 (by decide +kernel) rfl
theorem wg520 : Cond.methodLink "WeighedHall" 129 ⟨"WeighedHall", "startAnew", "()V"⟩ ∈ GT := gt_mem 640 (by decide +kernel) rfl
theorem wg522 : Cond.instanceMethod ⟨"WeighedHall", "startAnew", "()V"⟩ ∈ GT := gt_mem 642 (by decide +kernel) rfl
theorem ws10 : Cond.selects "WeighedHall" ⟨"WeighedHall", "startAnew", "()V"⟩ ⟨"WeighedHall", "startAnew", "()V"⟩ ∈ GT := gt_mem 10 (by decide +kernel) rfl
theorem wg519 : Cond.code ⟨"WeighedHall$Ballots", "clear", "()V"⟩ prog_2_method_2_code 1 (Option.none : Option FieldType) ∈ GT := gt_mem 639 (by decide +kernel) rfl
theorem wg5 : Cond.initialized "WeighedHall$Ballots" ∈ GT := gt_mem 125 (by decide +kernel) rfl
theorem wn516 : Cond.methodLinkNest "WeighedHall" 125 ⟨"WeighedHall$Ballots", "clear", "()V"⟩ "WeighedHall" ∈ NT := nt_mem 516 (by decide +kernel) rfl
theorem wg518 : Cond.instanceMethod ⟨"WeighedHall$Ballots", "clear", "()V"⟩ ∈ GT := gt_mem 638 (by decide +kernel) rfl
theorem ws9 : Cond.selects "WeighedHall$Ballots" ⟨"WeighedHall$Ballots", "clear", "()V"⟩ ⟨"WeighedHall$Ballots", "clear", "()V"⟩ ∈ GT := gt_mem 9 (by decide +kernel) rfl
theorem d_X10_forget_0 : decode cX10_forget 0 = .ok (.aload_n 0, 1) := by decide +kernel
theorem d_X10_forget_1 : decode cX10_forget 1 = .ok (.getfield 39, 3) := by decide +kernel
theorem d_X10_forget_4 : decode cX10_forget 4 = .ok (.getfield 291, 3) := by decide +kernel
theorem d_X10_forget_7 : decode cX10_forget 7 = .ok (.istore_n 1, 1) := by decide +kernel
theorem d_X10_forget_8 : decode cX10_forget 8 = .ok (.aload_n 0, 1) := by decide +kernel
theorem d_X10_forget_9 : decode cX10_forget 9 = .ok (.getfield 39, 3) := by decide +kernel
theorem d_X10_forget_12 : decode cX10_forget 12 = .ok (.invokevirtual 125, 3) := by decide +kernel
theorem d_X10_forget_15 : decode cX10_forget 15 = .ok (.aload_n 0, 1) := by decide +kernel
theorem d_X10_forget_16 : decode cX10_forget 16 = .ok (.invokevirtual 129, 3) := by decide +kernel
theorem d_X10_forget_19 : decode cX10_forget 19 = .ok (.iload_n 1, 1) := by decide +kernel
theorem d_X10_forget_20 : decode cX10_forget 20 = .ok (.ireturn, 1) := by decide +kernel
set_option maxRecDepth 100000 in
theorem L_X10_forget {p : Program} {l : Launch} {e : Env} {s : State} {m : MethodId} {args : Array Value} {below : List Frame} {meth : Method} {c : Code} {D : va_G} {ca : Nat → ClassId} {ad sx sy : Nat → Nat} {A : Nat → Prop} {Q : QT} (C0 : CX p s m args meth c cX10_forget 2 yX10_forget.cls D ca ad A) (hE : EX sx sy A s s.heap) (hr : meth.sig.returnType = (some .int)) (hno : ∀ x ∈ c.exceptionTable.toList, False) : R_X10_forget (JW p l e { frames := 11, cells := 0, slots := 6 * 0, locals := 220 } s m args below meth c 2 D ca ad A (vx_MQ below (Qn D ca ad A Q) (Qx D ca ad A Q) args s 0 (6 * 0) A) gz gz true) Q := s_aln C0 (d_X10_forget_0) hgz (s_gr C0 (j := 5) (c0 := 10) rfl gX10 (by decide) rfl rfl wg398 (d_X10_forget_1) hgz (s_giN C0 (j := 0) (c0 := 0) rfl gX0 (by decide) rfl (by decide) wn202 (d_X10_forget_4) hgz (s_isn C0 (d_X10_forget_7) hgz (s_aln C0 (d_X10_forget_8) hgz (s_gr C0 (j := 5) (c0 := 10) rfl gX10 (by decide) rfl rfl wg398 (d_X10_forget_9) hgz (s_callVN C0 hE (c_X0_clear l) wg519 wn516 wg518 ws9 wg5 ⟨by decide, by decide⟩ (by decide +kernel) (c0 := 0) rfl ⟨by decide, by decide⟩ ⟨by decide, by decide⟩ (d_X10_forget_12) (fun x hx => (hno x hx).elim) ⟨by decide, by decide⟩ ⟨by decide, by decide⟩ (s_aln C0 (d_X10_forget_15) hgz (s_callV C0 hE (c_X10_startAnew l) wg523 wg520 wg522 ws10 wg1 ⟨by decide, by decide⟩ (by decide +kernel) (c0 := 10) rfl ⟨by decide, by decide⟩ ⟨by decide, by decide⟩ (d_X10_forget_16) (fun x hx => (hno x hx).elim) ⟨by decide, by decide⟩ ⟨by decide, by decide⟩ (s_iln C0 (d_X10_forget_19) hgz (s_ri C0 hr (d_X10_forget_20) ⟨by decide, by decide⟩))))))))))
theorem c_X10_forget (l : Launch) : Ctr l yX10_forget cX10_forget 2 (some .int) 11 220 0 (fun sx => (nf G_X10_forget)) := ctr_of (by decide) gz gz ⟨rfl, rfl⟩ (fun p e s m args below meth c D ca ad sx sy A Q as M C0 hE hr hno hF => P_X10_forget (L_X10_forget C0 hE hr hno) hF)
theorem d_X10_greatestShared_0 : decode cX10_greatestShared 0 = .ok (.iload_n 0, 1) := by decide +kernel
theorem d_X10_greatestShared_1 : decode cX10_greatestShared 1 = .ok (.istore_n 2, 1) := by decide +kernel
theorem d_X10_greatestShared_2 : decode cX10_greatestShared 2 = .ok (.iload_n 1, 1) := by decide +kernel
theorem d_X10_greatestShared_3 : decode cX10_greatestShared 3 = .ok (.istore_n 3, 1) := by decide +kernel
theorem d_X10_greatestShared_4 : decode cX10_greatestShared 4 = .ok (.iconst 0, 1) := by decide +kernel
theorem d_X10_greatestShared_5 : decode cX10_greatestShared 5 = .ok (.istore 4, 2) := by decide +kernel
theorem d_X10_greatestShared_7 : decode cX10_greatestShared 7 = .ok (.iload 4, 2) := by decide +kernel
theorem d_X10_greatestShared_9 : decode cX10_greatestShared 9 = .ok (.bipush 64, 2) := by decide +kernel
theorem d_X10_greatestShared_11 : decode cX10_greatestShared 11 = .ok (.if_icmp .ge 23, 3) := by decide +kernel
theorem d_X10_greatestShared_14 : decode cX10_greatestShared 14 = .ok (.iload_n 3, 1) := by decide +kernel
theorem d_X10_greatestShared_15 : decode cX10_greatestShared 15 = .ok (.ifCond .le 19, 3) := by decide +kernel
theorem d_X10_greatestShared_18 : decode cX10_greatestShared 18 = .ok (.iload_n 2, 1) := by decide +kernel
theorem d_X10_greatestShared_19 : decode cX10_greatestShared 19 = .ok (.iload_n 3, 1) := by decide +kernel
theorem d_X10_greatestShared_20 : decode cX10_greatestShared 20 = .ok (.irem, 1) := by decide +kernel
theorem d_X10_greatestShared_21 : decode cX10_greatestShared 21 = .ok (.istore 5, 2) := by decide +kernel
theorem d_X10_greatestShared_23 : decode cX10_greatestShared 23 = .ok (.iload_n 3, 1) := by decide +kernel
theorem d_X10_greatestShared_24 : decode cX10_greatestShared 24 = .ok (.istore_n 2, 1) := by decide +kernel
theorem d_X10_greatestShared_25 : decode cX10_greatestShared 25 = .ok (.iload 5, 2) := by decide +kernel
theorem d_X10_greatestShared_27 : decode cX10_greatestShared 27 = .ok (.istore_n 3, 1) := by decide +kernel
theorem d_X10_greatestShared_28 : decode cX10_greatestShared 28 = .ok (.iinc 4 1, 3) := by decide +kernel
theorem d_X10_greatestShared_31 : decode cX10_greatestShared 31 = .ok (.goto (-24), 3) := by decide +kernel
theorem d_X10_greatestShared_34 : decode cX10_greatestShared 34 = .ok (.iload_n 2, 1) := by decide +kernel
theorem d_X10_greatestShared_35 : decode cX10_greatestShared 35 = .ok (.ireturn, 1) := by decide +kernel
set_option maxRecDepth 100000 in
theorem L_X10_greatestShared {p : Program} {l : Launch} {e : Env} {s : State} {m : MethodId} {args : Array Value} {below : List Frame} {meth : Method} {c : Code} {D : va_G} {ca : Nat → ClassId} {ad sx sy : Nat → Nat} {A : Nat → Prop} {Q : QT} (C0 : CX p s m args meth c cX10_greatestShared 6 yX10_greatestShared.cls D ca ad A) (hE : EX sx sy A s s.heap) (hr : meth.sig.returnType = (some .int)) (hno : ∀ x ∈ c.exceptionTable.toList, False) : R_X10_greatestShared (JW p l e { frames := 10, cells := 0, slots := 6 * 0, locals := 200 } s m args below meth c 6 D ca ad A (vx_MQ below (Qn D ca ad A Q) (Qx D ca ad A Q) args s 0 (6 * 0) A) gz gz true) Q := ⟨s_iln C0 (d_X10_greatestShared_0) hgz (s_isn C0 (d_X10_greatestShared_1) hgz (s_iln C0 (d_X10_greatestShared_2) hgz (s_isn C0 (d_X10_greatestShared_3) hgz (s_ic C0 (d_X10_greatestShared_4) hgz (s_is C0 (d_X10_greatestShared_5) hgz (fun _ _ _ h => h)) (okn rfl))))),
  s_il C0 (d_X10_greatestShared_7) hgz (s_bi C0 (d_X10_greatestShared_9) hgz (s_cge C0 (d_X10_greatestShared_11) (by decide) hgz hgz (fun _ _ _ h => h) (s_iln C0 (d_X10_greatestShared_14) hgz (s_zle C0 (d_X10_greatestShared_15) (by decide) hgz hgz (fun _ _ _ h => h) (s_iln C0 (d_X10_greatestShared_18) hgz (s_iln C0 (d_X10_greatestShared_19) hgz (s_rem C0 (d_X10_greatestShared_20) hgz (s_is C0 (d_X10_greatestShared_21) hgz (s_iln C0 (d_X10_greatestShared_23) hgz (s_isn C0 (d_X10_greatestShared_24) hgz (s_il C0 (d_X10_greatestShared_25) hgz (s_isn C0 (d_X10_greatestShared_27) hgz (s_inc C0 (d_X10_greatestShared_28) hgz (s_goto C0 (tgt := 7) (d_X10_greatestShared_31) (by decide) hgz (fun _ _ _ h => h)))))))))))))) (okn rfl) rfl),
  s_iln C0 (d_X10_greatestShared_34) hgz (s_ri C0 hr (d_X10_greatestShared_35) ⟨by decide, by decide⟩)⟩
theorem c_X10_greatestShared (l : Launch) : Ctr l yX10_greatestShared cX10_greatestShared 6 (some .int) 10 200 0 (fun sx => (nf G_X10_greatestShared)) := ctr_of (by decide) gz gz ⟨rfl, rfl⟩ (fun p e s m args below meth c D ca ad sx sy A Q as M C0 hE hr hno hF => P_X10_greatestShared (L_X10_greatestShared C0 hE hr hno) hF)
theorem wg47 : Cond.fieldLink "WeighedHall$Tape" 19 "WeighedHall$Tape" "faultPlace" "I" ∈ GT := gt_mem 167 (by decide +kernel) rfl
theorem wg45 : Cond.fieldLink "WeighedHall$Tape" 15 "WeighedHall$Tape" "faultKind" "I" ∈ GT := gt_mem 165 (by decide +kernel) rfl
theorem wg44 : Cond.fieldLink "WeighedHall$Tape" 37 "WeighedHall$Tape" "tokenFrom" "I" ∈ GT := gt_mem 164 (by decide +kernel) rfl
theorem wg43 : Cond.fieldLink "WeighedHall$Tape" 34 "WeighedHall$Tape" "place" "I" ∈ GT := gt_mem 163 (by decide +kernel) rfl
theorem wg42 : Cond.fieldLink "WeighedHall$Tape" 31 "WeighedHall$Tape" "end" "I" ∈ GT := gt_mem 162 (by decide +kernel) rfl
theorem wg634 : Cond.methodLink "WeighedHall$Tape" 25 ⟨"java/lang/Math", "min", "(II)I"⟩ ∈ GT := gt_mem 754 (by decide +kernel) rfl
theorem d_X9_open_0 : decode cX9_open 0 = .ok (.aload_n 0, 1) := by decide +kernel
theorem d_X9_open_1 : decode cX9_open 1 = .ok (.iload_n 1, 1) := by decide +kernel
theorem d_X9_open_2 : decode cX9_open 2 = .ok (.sipush 600, 3) := by decide +kernel
theorem d_X9_open_5 : decode cX9_open 5 = .ok (.invokestatic 25, 3) := by decide +kernel
theorem d_X9_open_8 : decode cX9_open 8 = .ok (.putfield 31, 3) := by decide +kernel
theorem d_X9_open_11 : decode cX9_open 11 = .ok (.aload_n 0, 1) := by decide +kernel
theorem d_X9_open_12 : decode cX9_open 12 = .ok (.iconst 0, 1) := by decide +kernel
theorem d_X9_open_13 : decode cX9_open 13 = .ok (.putfield 22, 3) := by decide +kernel
theorem d_X9_open_16 : decode cX9_open 16 = .ok (.aload_n 0, 1) := by decide +kernel
theorem d_X9_open_17 : decode cX9_open 17 = .ok (.iconst 0, 1) := by decide +kernel
theorem d_X9_open_18 : decode cX9_open 18 = .ok (.putfield 34, 3) := by decide +kernel
theorem d_X9_open_21 : decode cX9_open 21 = .ok (.aload_n 0, 1) := by decide +kernel
theorem d_X9_open_22 : decode cX9_open 22 = .ok (.iconst 0, 1) := by decide +kernel
theorem d_X9_open_23 : decode cX9_open 23 = .ok (.putfield 37, 3) := by decide +kernel
theorem d_X9_open_26 : decode cX9_open 26 = .ok (.aload_n 0, 1) := by decide +kernel
theorem d_X9_open_27 : decode cX9_open 27 = .ok (.iconst 0, 1) := by decide +kernel
theorem d_X9_open_28 : decode cX9_open 28 = .ok (.putfield 15, 3) := by decide +kernel
theorem d_X9_open_31 : decode cX9_open 31 = .ok (.aload_n 0, 1) := by decide +kernel
theorem d_X9_open_32 : decode cX9_open 32 = .ok (.iconst (-1), 1) := by decide +kernel
theorem d_X9_open_33 : decode cX9_open 33 = .ok (.putfield 19, 3) := by decide +kernel
theorem d_X9_open_36 : decode cX9_open 36 = .ok (.return_, 1) := by decide +kernel
set_option maxRecDepth 100000 in
theorem L_X9_open {p : Program} {l : Launch} {e : Env} {s : State} {m : MethodId} {args : Array Value} {below : List Frame} {meth : Method} {c : Code} {D : va_G} {ca : Nat → ClassId} {ad sx sy : Nat → Nat} {A : Nat → Prop} {Q : QT} (C0 : CX p s m args meth c cX9_open 2 yX9_open.cls D ca ad A) (hE : EX sx sy A s s.heap) (hr : meth.sig.returnType = none) (hno : ∀ x ∈ c.exceptionTable.toList, False) : R_X9_open (JW p l e { frames := 11, cells := 0, slots := 6 * 0, locals := 221 } s m args below meth c 2 D ca ad A (vx_MQ below (Qn D ca ad A Q) (Qx D ca ad A Q) args s 0 (6 * 0) A) gz gz true) Q := s_aln C0 (d_X9_open_0) hgz (s_iln C0 (d_X9_open_1) hgz (s_si C0 (d_X9_open_2) hgz (s_callS C0 hE (c_J9_min_7cf53 l) wg636 wg634 wg635 wg17 ⟨by decide, by decide⟩ (by decide +kernel) ⟨by decide, by decide⟩ ⟨by decide, by decide⟩ (d_X9_open_5) (fun x hx => (hno x hx).elim) ⟨by decide, by decide⟩ ⟨by decide, by decide⟩ (s_pi C0 (j := 2) (c0 := 9) rfl gX9 tyX9_ok nmX9 (by decide) rfl (by decide) rfl rfl wg42 (d_X9_open_8) hgz (s_aln C0 (d_X9_open_11) hgz (s_ic C0 (d_X9_open_12) hgz (s_pi C0 (j := 1) (c0 := 9) rfl gX9 tyX9_ok nmX9 (by decide) rfl (by decide) rfl rfl wg41 (d_X9_open_13) hgz (s_aln C0 (d_X9_open_16) hgz (s_ic C0 (d_X9_open_17) hgz (s_pi C0 (j := 3) (c0 := 9) rfl gX9 tyX9_ok nmX9 (by decide) rfl (by decide) rfl rfl wg43 (d_X9_open_18) hgz (s_aln C0 (d_X9_open_21) hgz (s_ic C0 (d_X9_open_22) hgz (s_pi C0 (j := 4) (c0 := 9) rfl gX9 tyX9_ok nmX9 (by decide) rfl (by decide) rfl rfl wg44 (d_X9_open_23) hgz (s_aln C0 (d_X9_open_26) hgz (s_ic C0 (d_X9_open_27) hgz (s_pi C0 (j := 5) (c0 := 9) rfl gX9 tyX9_ok nmX9 (by decide) rfl (by decide) rfl rfl wg45 (d_X9_open_28) hgz (s_aln C0 (d_X9_open_31) hgz (s_ic C0 (d_X9_open_32) hgz (s_pi C0 (j := 6) (c0 := 9) rfl gX9 tyX9_ok nmX9 (by decide) rfl (by decide) rfl rfl wg47 (d_X9_open_33) hgz (s_rv C0 hr (d_X9_open_36) ⟨by decide, by decide⟩)) (okn rfl)))) (okn rfl)))) (okn rfl)))) (okn rfl)))) (okn rfl))))) (okn rfl) rfl))
theorem c_X9_open (l : Launch) : Ctr l yX9_open cX9_open 2 none 11 221 0 (fun sx => (nf G_X9_open)) := ctr_of (by decide) gz gz ⟨rfl, rfl⟩ (fun p e s m args below meth c D ca ad sx sy A Q as M C0 hE hr hno hF => P_X9_open (L_X9_open C0 hE hr hno) hF)
theorem d_X9_isSound_0 : decode cX9_isSound 0 = .ok (.aload_n 0, 1) := by decide +kernel
theorem d_X9_isSound_1 : decode cX9_isSound 1 = .ok (.getfield 15, 3) := by decide +kernel
theorem d_X9_isSound_4 : decode cX9_isSound 4 = .ok (.ifCond .ne 7, 3) := by decide +kernel
theorem d_X9_isSound_7 : decode cX9_isSound 7 = .ok (.iconst 1, 1) := by decide +kernel
theorem d_X9_isSound_8 : decode cX9_isSound 8 = .ok (.goto 4, 3) := by decide +kernel
theorem d_X9_isSound_11 : decode cX9_isSound 11 = .ok (.iconst 0, 1) := by decide +kernel
theorem d_X9_isSound_12 : decode cX9_isSound 12 = .ok (.ireturn, 1) := by decide +kernel
set_option maxRecDepth 100000 in
theorem L_X9_isSound {p : Program} {l : Launch} {e : Env} {s : State} {m : MethodId} {args : Array Value} {below : List Frame} {meth : Method} {c : Code} {D : va_G} {ca : Nat → ClassId} {ad sx sy : Nat → Nat} {A : Nat → Prop} {Q : QT} (C0 : CX p s m args meth c cX9_isSound 1 yX9_isSound.cls D ca ad A) (hE : EX sx sy A s s.heap) (hr : meth.sig.returnType = (some .boolean)) (hno : ∀ x ∈ c.exceptionTable.toList, False) : R_X9_isSound (JW p l e { frames := 10, cells := 0, slots := 6 * 0, locals := 200 } s m args below meth c 1 D ca ad A (vx_MQ below (Qn D ca ad A Q) (Qx D ca ad A Q) args s 0 (6 * 0) A) gz gz true) Q := ⟨s_aln C0 (d_X9_isSound_0) hgz (s_gi C0 (j := 5) (c0 := 9) rfl gX9 (by decide) rfl (by decide) wg45 (d_X9_isSound_1) hgz (s_zne C0 (d_X9_isSound_4) (by decide) hgz hgz (fun _ _ _ h => h) (s_ic C0 (d_X9_isSound_7) hgz (s_goto C0 (tgt := 12) (d_X9_isSound_8) (by decide) hgz (fun _ _ _ h => h)) (okn rfl)))),
  s_ic C0 (d_X9_isSound_11) hgz (fun _ _ _ h => h) (okn rfl),
  s_rz C0 hr (d_X9_isSound_12) ⟨by decide, by decide⟩⟩
theorem c_X9_isSound (l : Launch) : Ctr l yX9_isSound cX9_isSound 1 (some .boolean) 10 200 0 (fun sx => (nf G_X9_isSound)) := ctr_of (by decide) gz gz ⟨rfl, rfl⟩ (fun p e s m args below meth c D ca ad sx sy A Q as M C0 hE hr hno hF => P_X9_isSound (L_X9_isSound C0 hE hr hno) hF)
theorem wg172 : Cond.fieldLink "WeighedHall$Loans" 24 "WeighedHall$Loans" "number" "I" ∈ GT := gt_mem 292 (by decide +kernel) rfl
theorem d_X5_clear_0 : decode cX5_clear 0 = .ok (.aload_n 0, 1) := by decide +kernel
theorem d_X5_clear_1 : decode cX5_clear 1 = .ok (.iconst 0, 1) := by decide +kernel
theorem d_X5_clear_2 : decode cX5_clear 2 = .ok (.putfield 24, 3) := by decide +kernel
theorem d_X5_clear_5 : decode cX5_clear 5 = .ok (.return_, 1) := by decide +kernel
set_option maxRecDepth 100000 in
theorem L_X5_clear {p : Program} {l : Launch} {e : Env} {s : State} {m : MethodId} {args : Array Value} {below : List Frame} {meth : Method} {c : Code} {D : va_G} {ca : Nat → ClassId} {ad sx sy : Nat → Nat} {A : Nat → Prop} {Q : QT} (C0 : CX p s m args meth c cX5_clear 1 yX5_clear.cls D ca ad A) (hE : EX sx sy A s s.heap) (hr : meth.sig.returnType = none) (hno : ∀ x ∈ c.exceptionTable.toList, False) : R_X5_clear (JW p l e { frames := 10, cells := 0, slots := 6 * 0, locals := 200 } s m args below meth c 1 D ca ad A (vx_MQ below (Qn D ca ad A Q) (Qx D ca ad A Q) args s 0 (6 * 0) A) gz gz true) Q := s_aln C0 (d_X5_clear_0) hgz (s_ic C0 (d_X5_clear_1) hgz (s_pi C0 (j := 0) (c0 := 5) rfl gX5 tyX5_ok nmX5 (by decide) rfl (by decide) rfl rfl wg172 (d_X5_clear_2) hgz (s_rv C0 hr (d_X5_clear_5) ⟨by decide, by decide⟩)) (okn rfl))
theorem c_X5_clear (l : Launch) : Ctr l yX5_clear cX5_clear 1 none 10 200 0 (fun sx => (nf G_X5_clear)) := ctr_of (by decide) gz gz ⟨rfl, rfl⟩ (fun p e s m args below meth c D ca ad sx sy A Q as M C0 hE hr hno hF => P_X5_clear (L_X5_clear C0 hE hr hno) hF)
theorem d_X9_skipBlanks_0 : decode cX9_skipBlanks 0 = .ok (.aload_n 0, 1) := by decide +kernel
theorem d_X9_skipBlanks_1 : decode cX9_skipBlanks 1 = .ok (.getfield 34, 3) := by decide +kernel
theorem d_X9_skipBlanks_4 : decode cX9_skipBlanks 4 = .ok (.aload_n 0, 1) := by decide +kernel
theorem d_X9_skipBlanks_5 : decode cX9_skipBlanks 5 = .ok (.getfield 31, 3) := by decide +kernel
theorem d_X9_skipBlanks_8 : decode cX9_skipBlanks 8 = .ok (.if_icmp .ge 30, 3) := by decide +kernel
theorem d_X9_skipBlanks_11 : decode cX9_skipBlanks 11 = .ok (.aload_n 0, 1) := by decide +kernel
theorem d_X9_skipBlanks_12 : decode cX9_skipBlanks 12 = .ok (.getfield 9, 3) := by decide +kernel
theorem d_X9_skipBlanks_15 : decode cX9_skipBlanks 15 = .ok (.aload_n 0, 1) := by decide +kernel
theorem d_X9_skipBlanks_16 : decode cX9_skipBlanks 16 = .ok (.getfield 34, 3) := by decide +kernel
theorem d_X9_skipBlanks_19 : decode cX9_skipBlanks 19 = .ok (.baload, 1) := by decide +kernel
theorem d_X9_skipBlanks_20 : decode cX9_skipBlanks 20 = .ok (.bipush 32, 2) := by decide +kernel
theorem d_X9_skipBlanks_22 : decode cX9_skipBlanks 22 = .ok (.if_icmp .ne 16, 3) := by decide +kernel
theorem d_X9_skipBlanks_25 : decode cX9_skipBlanks 25 = .ok (.aload_n 0, 1) := by decide +kernel
theorem d_X9_skipBlanks_26 : decode cX9_skipBlanks 26 = .ok (.dup, 1) := by decide +kernel
theorem d_X9_skipBlanks_27 : decode cX9_skipBlanks 27 = .ok (.getfield 34, 3) := by decide +kernel
theorem d_X9_skipBlanks_30 : decode cX9_skipBlanks 30 = .ok (.iconst 1, 1) := by decide +kernel
theorem d_X9_skipBlanks_31 : decode cX9_skipBlanks 31 = .ok (.iadd, 1) := by decide +kernel
theorem d_X9_skipBlanks_32 : decode cX9_skipBlanks 32 = .ok (.putfield 34, 3) := by decide +kernel
theorem d_X9_skipBlanks_35 : decode cX9_skipBlanks 35 = .ok (.goto (-35), 3) := by decide +kernel
theorem d_X9_skipBlanks_38 : decode cX9_skipBlanks 38 = .ok (.aload_n 0, 1) := by decide +kernel
theorem d_X9_skipBlanks_39 : decode cX9_skipBlanks 39 = .ok (.aload_n 0, 1) := by decide +kernel
theorem d_X9_skipBlanks_40 : decode cX9_skipBlanks 40 = .ok (.getfield 34, 3) := by decide +kernel
theorem d_X9_skipBlanks_43 : decode cX9_skipBlanks 43 = .ok (.putfield 37, 3) := by decide +kernel
theorem d_X9_skipBlanks_46 : decode cX9_skipBlanks 46 = .ok (.return_, 1) := by decide +kernel
set_option maxRecDepth 100000 in
theorem L_X9_skipBlanks {p : Program} {l : Launch} {e : Env} {s : State} {m : MethodId} {args : Array Value} {below : List Frame} {meth : Method} {c : Code} {D : va_G} {ca : Nat → ClassId} {ad sx sy : Nat → Nat} {A : Nat → Prop} {Q : QT} (C0 : CX p s m args meth c cX9_skipBlanks 1 yX9_skipBlanks.cls D ca ad A) (hE : EX sx sy A s s.heap) (hr : meth.sig.returnType = none) (hno : ∀ x ∈ c.exceptionTable.toList, False) : R_X9_skipBlanks (JW p l e { frames := 10, cells := 0, slots := 6 * 0, locals := 200 } s m args below meth c 1 D ca ad A (vx_MQ below (Qn D ca ad A Q) (Qx D ca ad A Q) args s 0 (6 * 0) A) gz gz true) Q := ⟨s_aln C0 (d_X9_skipBlanks_0) hgz (s_gi C0 (j := 3) (c0 := 9) rfl gX9 (by decide) rfl (by decide) wg43 (d_X9_skipBlanks_1) hgz (s_aln C0 (d_X9_skipBlanks_4) hgz (s_gi C0 (j := 2) (c0 := 9) rfl gX9 (by decide) rfl (by decide) wg42 (d_X9_skipBlanks_5) hgz (s_cge C0 (d_X9_skipBlanks_8) (by decide) hgz hgz (fun _ _ _ h => h) (s_aln C0 (d_X9_skipBlanks_11) hgz (s_gr C0 (j := 0) (c0 := 9) rfl gX9 (by decide) rfl rfl wg39 (d_X9_skipBlanks_12) hgz (s_aln C0 (d_X9_skipBlanks_15) hgz (s_gi C0 (j := 3) (c0 := 9) rfl gX9 (by decide) rfl (by decide) wg43 (d_X9_skipBlanks_16) hgz (s_ba C0 (d_X9_skipBlanks_19) hgz (s_bi C0 (d_X9_skipBlanks_20) hgz (s_cne C0 (d_X9_skipBlanks_22) (by decide) hgz hgz (fun _ _ _ h => h) (s_aln C0 (d_X9_skipBlanks_25) hgz (s_dup C0 (d_X9_skipBlanks_26) hgz (s_gi C0 (j := 3) (c0 := 9) rfl gX9 (by decide) rfl (by decide) wg43 (d_X9_skipBlanks_27) hgz (s_ic C0 (d_X9_skipBlanks_30) hgz (s_add C0 (d_X9_skipBlanks_31) hgz (s_pi C0 (j := 3) (c0 := 9) rfl gX9 tyX9_ok nmX9 (by decide) rfl (by decide) rfl rfl wg43 (d_X9_skipBlanks_32) hgz (s_goto C0 (tgt := 0) (d_X9_skipBlanks_35) (by decide) hgz (fun _ _ _ h => h)))) (okn rfl)))))) (okn rfl) rfl)))))))))),
  s_aln C0 (d_X9_skipBlanks_38) hgz (s_aln C0 (d_X9_skipBlanks_39) hgz (s_gi C0 (j := 3) (c0 := 9) rfl gX9 (by decide) rfl (by decide) wg43 (d_X9_skipBlanks_40) hgz (s_pi C0 (j := 4) (c0 := 9) rfl gX9 tyX9_ok nmX9 (by decide) rfl (by decide) rfl rfl wg44 (d_X9_skipBlanks_43) hgz (s_rv C0 hr (d_X9_skipBlanks_46) ⟨by decide, by decide⟩))))⟩
theorem c_X9_skipBlanks (l : Launch) : Ctr l yX9_skipBlanks cX9_skipBlanks 1 none 10 200 0 (fun sx => (nf G_X9_skipBlanks)) := ctr_of (by decide) gz gz ⟨rfl, rfl⟩ (fun p e s m args below meth c D ca ad sx sy A Q as M C0 hE hr hno hF => P_X9_skipBlanks (L_X9_skipBlanks C0 hE hr hno) hF)
theorem wg648 : Cond.code ⟨"WeighedHall$Tape", "isSound", "()Z"⟩ prog_11_method_4_code 1 (Option.some .boolean) ∈ GT := gt_mem 768 (by decide +kernel) rfl
theorem wg645 : Cond.methodLink "WeighedHall$Tape" 40 ⟨"WeighedHall$Tape", "isSound", "()Z"⟩ ∈ GT := gt_mem 765 (by decide +kernel) rfl
theorem wg647 : Cond.instanceMethod ⟨"WeighedHall$Tape", "isSound", "()Z"⟩ ∈ GT := gt_mem 767 (by decide +kernel) rfl
theorem ws18 : Cond.selects "WeighedHall$Tape" ⟨"WeighedHall$Tape", "isSound", "()Z"⟩ ⟨"WeighedHall$Tape", "isSound", "()Z"⟩ ∈ GT := gt_mem 18 (by decide +kernel) rfl
theorem wg652 : Cond.code ⟨"WeighedHall$Tape", "skipBlanks", "()V"⟩ prog_11_method_6_code 1 (Option.none : Option FieldType) ∈ GT := gt_mem 772 (by decide +kernel) rfl
theorem wg649 : Cond.methodLink "WeighedHall$Tape" 44 ⟨"WeighedHall$Tape", "skipBlanks", "()V"⟩ ∈ GT := gt_mem 769 (by decide +kernel) rfl
theorem wg651 : Cond.instanceMethod ⟨"WeighedHall$Tape", "skipBlanks", "()V"⟩ ∈ GT := gt_mem 771 (by decide +kernel) rfl
theorem ws19 : Cond.selects "WeighedHall$Tape" ⟨"WeighedHall$Tape", "skipBlanks", "()V"⟩ ⟨"WeighedHall$Tape", "skipBlanks", "()V"⟩ ∈ GT := gt_mem 19 (by decide +kernel) rfl
theorem d_X9_readWord_0 : decode cX9_readWord 0 = .ok (.aload_n 0, 1) := by decide +kernel
theorem d_X9_readWord_1 : decode cX9_readWord 1 = .ok (.invokevirtual 40, 3) := by decide +kernel
theorem d_X9_readWord_4 : decode cX9_readWord 4 = .ok (.ifCond .ne 4, 3) := by decide +kernel
theorem d_X9_readWord_7 : decode cX9_readWord 7 = .ok (.return_, 1) := by decide +kernel
theorem d_X9_readWord_8 : decode cX9_readWord 8 = .ok (.aload_n 0, 1) := by decide +kernel
theorem d_X9_readWord_9 : decode cX9_readWord 9 = .ok (.invokevirtual 44, 3) := by decide +kernel
theorem d_X9_readWord_12 : decode cX9_readWord 12 = .ok (.aload_n 0, 1) := by decide +kernel
theorem d_X9_readWord_13 : decode cX9_readWord 13 = .ok (.getfield 34, 3) := by decide +kernel
theorem d_X9_readWord_16 : decode cX9_readWord 16 = .ok (.aload_n 0, 1) := by decide +kernel
theorem d_X9_readWord_17 : decode cX9_readWord 17 = .ok (.getfield 31, 3) := by decide +kernel
theorem d_X9_readWord_20 : decode cX9_readWord 20 = .ok (.if_icmp .ge 44, 3) := by decide +kernel
theorem d_X9_readWord_23 : decode cX9_readWord 23 = .ok (.aload_n 0, 1) := by decide +kernel
theorem d_X9_readWord_24 : decode cX9_readWord 24 = .ok (.getfield 9, 3) := by decide +kernel
theorem d_X9_readWord_27 : decode cX9_readWord 27 = .ok (.aload_n 0, 1) := by decide +kernel
theorem d_X9_readWord_28 : decode cX9_readWord 28 = .ok (.getfield 34, 3) := by decide +kernel
theorem d_X9_readWord_31 : decode cX9_readWord 31 = .ok (.baload, 1) := by decide +kernel
theorem d_X9_readWord_32 : decode cX9_readWord 32 = .ok (.bipush 97, 2) := by decide +kernel
theorem d_X9_readWord_34 : decode cX9_readWord 34 = .ok (.if_icmp .lt 30, 3) := by decide +kernel
theorem d_X9_readWord_37 : decode cX9_readWord 37 = .ok (.aload_n 0, 1) := by decide +kernel
theorem d_X9_readWord_38 : decode cX9_readWord 38 = .ok (.getfield 9, 3) := by decide +kernel
theorem d_X9_readWord_41 : decode cX9_readWord 41 = .ok (.aload_n 0, 1) := by decide +kernel
theorem d_X9_readWord_42 : decode cX9_readWord 42 = .ok (.getfield 34, 3) := by decide +kernel
theorem d_X9_readWord_45 : decode cX9_readWord 45 = .ok (.baload, 1) := by decide +kernel
theorem d_X9_readWord_46 : decode cX9_readWord 46 = .ok (.bipush 122, 2) := by decide +kernel
theorem d_X9_readWord_48 : decode cX9_readWord 48 = .ok (.if_icmp .gt 16, 3) := by decide +kernel
theorem d_X9_readWord_51 : decode cX9_readWord 51 = .ok (.aload_n 0, 1) := by decide +kernel
theorem d_X9_readWord_52 : decode cX9_readWord 52 = .ok (.dup, 1) := by decide +kernel
theorem d_X9_readWord_53 : decode cX9_readWord 53 = .ok (.getfield 34, 3) := by decide +kernel
theorem d_X9_readWord_56 : decode cX9_readWord 56 = .ok (.iconst 1, 1) := by decide +kernel
theorem d_X9_readWord_57 : decode cX9_readWord 57 = .ok (.iadd, 1) := by decide +kernel
theorem d_X9_readWord_58 : decode cX9_readWord 58 = .ok (.putfield 34, 3) := by decide +kernel
theorem d_X9_readWord_61 : decode cX9_readWord 61 = .ok (.goto (-49), 3) := by decide +kernel
theorem d_X9_readWord_64 : decode cX9_readWord 64 = .ok (.return_, 1) := by decide +kernel
set_option maxRecDepth 100000 in
theorem L_X9_readWord {p : Program} {l : Launch} {e : Env} {s : State} {m : MethodId} {args : Array Value} {below : List Frame} {meth : Method} {c : Code} {D : va_G} {ca : Nat → ClassId} {ad sx sy : Nat → Nat} {A : Nat → Prop} {Q : QT} (C0 : CX p s m args meth c cX9_readWord 1 yX9_readWord.cls D ca ad A) (hE : EX sx sy A s s.heap) (hr : meth.sig.returnType = none) (hno : ∀ x ∈ c.exceptionTable.toList, False) : R_X9_readWord (JW p l e { frames := 11, cells := 0, slots := 6 * 0, locals := 220 } s m args below meth c 1 D ca ad A (vx_MQ below (Qn D ca ad A Q) (Qx D ca ad A Q) args s 0 (6 * 0) A) gz gz true) Q := ⟨s_aln C0 (d_X9_readWord_0) hgz (s_callV C0 hE (c_X9_isSound l) wg648 wg645 wg647 ws18 wg2 ⟨by decide, by decide⟩ (by decide +kernel) (c0 := 9) rfl ⟨by decide, by decide⟩ ⟨by decide, by decide⟩ (d_X9_readWord_1) (fun x hx => (hno x hx).elim) ⟨by decide, by decide⟩ ⟨by decide, by decide⟩ (s_zne C0 (d_X9_readWord_4) (by decide) hgz hgz (fun _ _ _ h => h) (s_rv C0 hr (d_X9_readWord_7) ⟨by decide, by decide⟩))),
  s_aln C0 (d_X9_readWord_8) hgz (s_callV C0 hE (c_X9_skipBlanks l) wg652 wg649 wg651 ws19 wg2 ⟨by decide, by decide⟩ (by decide +kernel) (c0 := 9) rfl ⟨by decide, by decide⟩ ⟨by decide, by decide⟩ (d_X9_readWord_9) (fun x hx => (hno x hx).elim) ⟨by decide, by decide⟩ ⟨by decide, by decide⟩ (fun _ _ _ h => h)),
  s_aln C0 (d_X9_readWord_12) hgz (s_gi C0 (j := 3) (c0 := 9) rfl gX9 (by decide) rfl (by decide) wg43 (d_X9_readWord_13) hgz (s_aln C0 (d_X9_readWord_16) hgz (s_gi C0 (j := 2) (c0 := 9) rfl gX9 (by decide) rfl (by decide) wg42 (d_X9_readWord_17) hgz (s_cge C0 (d_X9_readWord_20) (by decide) hgz hgz (fun _ _ _ h => h) (s_aln C0 (d_X9_readWord_23) hgz (s_gr C0 (j := 0) (c0 := 9) rfl gX9 (by decide) rfl rfl wg39 (d_X9_readWord_24) hgz (s_aln C0 (d_X9_readWord_27) hgz (s_gi C0 (j := 3) (c0 := 9) rfl gX9 (by decide) rfl (by decide) wg43 (d_X9_readWord_28) hgz (s_ba C0 (d_X9_readWord_31) hgz (s_bi C0 (d_X9_readWord_32) hgz (s_clt C0 (d_X9_readWord_34) (by decide) hgz hgz (fun _ _ _ h => h) (s_aln C0 (d_X9_readWord_37) hgz (s_gr C0 (j := 0) (c0 := 9) rfl gX9 (by decide) rfl rfl wg39 (d_X9_readWord_38) hgz (s_aln C0 (d_X9_readWord_41) hgz (s_gi C0 (j := 3) (c0 := 9) rfl gX9 (by decide) rfl (by decide) wg43 (d_X9_readWord_42) hgz (s_ba C0 (d_X9_readWord_45) hgz (s_bi C0 (d_X9_readWord_46) hgz (s_cgt C0 (d_X9_readWord_48) (by decide) hgz hgz (fun _ _ _ h => h) (s_aln C0 (d_X9_readWord_51) hgz (s_dup C0 (d_X9_readWord_52) hgz (s_gi C0 (j := 3) (c0 := 9) rfl gX9 (by decide) rfl (by decide) wg43 (d_X9_readWord_53) hgz (s_ic C0 (d_X9_readWord_56) hgz (s_add C0 (d_X9_readWord_57) hgz (s_pi C0 (j := 3) (c0 := 9) rfl gX9 tyX9_ok nmX9 (by decide) rfl (by decide) rfl rfl wg43 (d_X9_readWord_58) hgz (s_goto C0 (tgt := 12) (d_X9_readWord_61) (by decide) hgz (fun _ _ _ h => h)))) (okn rfl)))))) (okn rfl) rfl))))))) (okn rfl) rfl)))))))))),
  s_rv C0 hr (d_X9_readWord_64) ⟨by decide, by decide⟩⟩
theorem c_X9_readWord (l : Launch) : Ctr l yX9_readWord cX9_readWord 1 none 11 220 0 (fun sx => (nf G_X9_readWord)) := ctr_of (by decide) gz gz ⟨rfl, rfl⟩ (fun p e s m args below meth c D ca ad sx sy A Q as M C0 hE hr hno hF => P_X9_readWord (L_X9_readWord C0 hE hr hno) hF)
