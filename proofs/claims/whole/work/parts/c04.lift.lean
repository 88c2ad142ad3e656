theorem wn780 : Cond.methodLinkNest "WeighedHall$Loans" 39 ⟨"WeighedHall$Tape", "wordIs", "(Ljava/lang/String;)Z"⟩ "WeighedHall" ∈ NT := nt_mem 780 (by decide +kernel) rfl
theorem wn778 : Cond.methodLinkNest "WeighedHall$Loans" 34 ⟨"WeighedHall$Tape", "readWord", "()V"⟩ "WeighedHall" ∈ NT := nt_mem 778 (by decide +kernel) rfl
theorem wn777 : Cond.methodLinkNest "WeighedHall$Loans" 28 ⟨"WeighedHall$Tape", "hasMore", "()Z"⟩ "WeighedHall" ∈ NT := nt_mem 777 (by decide +kernel) rfl
theorem wn792 : Cond.methodLinkNest "WeighedHall$Loans" 51 ⟨"WeighedHall$Tape", "readStop", "()V"⟩ "WeighedHall" ∈ NT := nt_mem 792 (by decide +kernel) rfl
theorem wg785 : Cond.code ⟨"WeighedHall$Loans", "readLoan", "(LWeighedHall$Tape;LWeighedHall$Plan;)V"⟩ prog_7_method_4_code 7 (Option.none : Option FieldType) ∈ GT := gt_mem 905 (by decide +kernel) rfl
theorem wg782 : Cond.methodLink "WeighedHall$Loans" 47 ⟨"WeighedHall$Loans", "readLoan", "(LWeighedHall$Tape;LWeighedHall$Plan;)V"⟩ ∈ GT := gt_mem 902 (by decide +kernel) rfl
theorem wg784 : Cond.instanceMethod ⟨"WeighedHall$Loans", "readLoan", "(LWeighedHall$Tape;LWeighedHall$Plan;)V"⟩ ∈ GT := gt_mem 904 (by decide +kernel) rfl
theorem ws34 : Cond.selects "WeighedHall$Loans" ⟨"WeighedHall$Loans", "readLoan", "(LWeighedHall$Tape;LWeighedHall$Plan;)V"⟩ ⟨"WeighedHall$Loans", "readLoan", "(LWeighedHall$Tape;LWeighedHall$Plan;)V"⟩ ∈ GT := gt_mem 34 (by decide +kernel) rfl
theorem d_X5_readFrom_0 : decode cX5_readFrom 0 = .ok (.aload_n 0, 1) := by decide +kernel
theorem d_X5_readFrom_1 : decode cX5_readFrom 1 = .ok (.iconst 0, 1) := by decide +kernel
theorem d_X5_readFrom_2 : decode cX5_readFrom 2 = .ok (.putfield 24, 3) := by decide +kernel
theorem d_X5_readFrom_5 : decode cX5_readFrom 5 = .ok (.iconst 0, 1) := by decide +kernel
theorem d_X5_readFrom_6 : decode cX5_readFrom 6 = .ok (.istore_n 3, 1) := by decide +kernel
theorem d_X5_readFrom_7 : decode cX5_readFrom 7 = .ok (.iload_n 3, 1) := by decide +kernel
theorem d_X5_readFrom_8 : decode cX5_readFrom 8 = .ok (.bipush 20, 2) := by decide +kernel
theorem d_X5_readFrom_10 : decode cX5_readFrom 10 = .ok (.if_icmp .gt 58, 3) := by decide +kernel
theorem d_X5_readFrom_13 : decode cX5_readFrom 13 = .ok (.aload_n 1, 1) := by decide +kernel
theorem d_X5_readFrom_14 : decode cX5_readFrom 14 = .ok (.invokevirtual 28, 3) := by decide +kernel
theorem d_X5_readFrom_17 : decode cX5_readFrom 17 = .ok (.ifCond .eq 51, 3) := by decide +kernel
theorem d_X5_readFrom_20 : decode cX5_readFrom 20 = .ok (.aload_n 1, 1) := by decide +kernel
theorem d_X5_readFrom_21 : decode cX5_readFrom 21 = .ok (.invokevirtual 34, 3) := by decide +kernel
theorem d_X5_readFrom_24 : decode cX5_readFrom 24 = .ok (.aload_n 1, 1) := by decide +kernel
theorem d_X5_readFrom_25 : decode cX5_readFrom 25 = .ok (.ldc 37, 2) := by decide +kernel
theorem d_X5_readFrom_27 : decode cX5_readFrom 27 = .ok (.invokevirtual 39, 3) := by decide +kernel
theorem d_X5_readFrom_30 : decode cX5_readFrom 30 = .ok (.ifCond .ne 11, 3) := by decide +kernel
theorem d_X5_readFrom_33 : decode cX5_readFrom 33 = .ok (.aload_n 1, 1) := by decide +kernel
theorem d_X5_readFrom_34 : decode cX5_readFrom 34 = .ok (.iconst 1, 1) := by decide +kernel
theorem d_X5_readFrom_35 : decode cX5_readFrom 35 = .ok (.invokevirtual 43, 3) := by decide +kernel
theorem d_X5_readFrom_38 : decode cX5_readFrom 38 = .ok (.goto 14, 3) := by decide +kernel
theorem d_X5_readFrom_41 : decode cX5_readFrom 41 = .ok (.iload_n 3, 1) := by decide +kernel
theorem d_X5_readFrom_42 : decode cX5_readFrom 42 = .ok (.bipush 20, 2) := by decide +kernel
theorem d_X5_readFrom_44 : decode cX5_readFrom 44 = .ok (.if_icmp .lt 8, 3) := by decide +kernel
theorem d_X5_readFrom_47 : decode cX5_readFrom 47 = .ok (.aload_n 1, 1) := by decide +kernel
theorem d_X5_readFrom_48 : decode cX5_readFrom 48 = .ok (.iconst 3, 1) := by decide +kernel
theorem d_X5_readFrom_49 : decode cX5_readFrom 49 = .ok (.invokevirtual 43, 3) := by decide +kernel
theorem d_X5_readFrom_52 : decode cX5_readFrom 52 = .ok (.aload_n 0, 1) := by decide +kernel
theorem d_X5_readFrom_53 : decode cX5_readFrom 53 = .ok (.aload_n 1, 1) := by decide +kernel
theorem d_X5_readFrom_54 : decode cX5_readFrom 54 = .ok (.aload_n 2, 1) := by decide +kernel
theorem d_X5_readFrom_55 : decode cX5_readFrom 55 = .ok (.invokevirtual 47, 3) := by decide +kernel
theorem d_X5_readFrom_58 : decode cX5_readFrom 58 = .ok (.aload_n 1, 1) := by decide +kernel
theorem d_X5_readFrom_59 : decode cX5_readFrom 59 = .ok (.invokevirtual 51, 3) := by decide +kernel
theorem d_X5_readFrom_62 : decode cX5_readFrom 62 = .ok (.iinc 3 1, 3) := by decide +kernel
theorem d_X5_readFrom_65 : decode cX5_readFrom 65 = .ok (.goto (-58), 3) := by decide +kernel
theorem d_X5_readFrom_68 : decode cX5_readFrom 68 = .ok (.return_, 1) := by decide +kernel
set_option maxRecDepth 100000 in
theorem L_X5_readFrom {p : Program} {l : Launch} {e : Env} {s : State} {m : MethodId} {args : Array Value} {below : List Frame} {meth : Method} {c : Code} {D : va_G} {ca : Nat → ClassId} {ad sx sy : Nat → Nat} {A : Nat → Prop} {Q : QT} (C0 : CX p s m args meth c cX5_readFrom 4 yX5_readFrom.cls D ca ad A) (hE : EX sx sy A s s.heap) (hr : meth.sig.returnType = none) (hno : ∀ x ∈ c.exceptionTable.toList, False) : R_X5_readFrom sx (JW p l e { frames := 15, cells := 0, slots := 6 * 0, locals := 308 } s m args below meth c 4 D ca ad A (vx_MQ below (Qn D ca ad A Q) (Qx D ca ad A Q) args s 0 (6 * 0) A) gz gz true) Q := ⟨s_aln C0 (d_X5_readFrom_0) hgz (s_ic C0 (d_X5_readFrom_1) hgz (s_pi C0 (j := 0) (c0 := 5) rfl gX5 tyX5_ok nmX5 (by decide) rfl (by decide) rfl rfl wg172 (d_X5_readFrom_2) hgz (s_ic C0 (d_X5_readFrom_5) hgz (s_isn C0 (d_X5_readFrom_6) hgz (fun _ _ _ h => h)) (okn rfl))) (okn rfl)),
  s_iln C0 (d_X5_readFrom_7) hgz (s_bi C0 (d_X5_readFrom_8) hgz (s_cgt C0 (d_X5_readFrom_10) (by decide) hgz hgz (fun _ _ _ h => h) (s_aln C0 (d_X5_readFrom_13) hgz (s_callVN C0 hE (c_X9_hasMore l) wg644 wn777 wg643 ws17 wg2 ⟨by decide, by decide⟩ (by decide +kernel) (c0 := 9) rfl ⟨by decide, by decide⟩ ⟨by decide, by decide⟩ (d_X5_readFrom_14) (fun x hx => (hno x hx).elim) ⟨by decide, by decide⟩ ⟨by decide, by decide⟩ (s_zeq C0 (d_X5_readFrom_17) (by decide) hgz hgz (fun _ _ _ h => h) (s_aln C0 (d_X5_readFrom_20) hgz (s_callVN C0 hE (c_X9_readWord l) wg656 wn778 wg655 ws20 wg2 ⟨by decide, by decide⟩ (by decide +kernel) (c0 := 9) rfl ⟨by decide, by decide⟩ ⟨by decide, by decide⟩ (d_X5_readFrom_21) (fun x hx => (hno x hx).elim) ⟨by decide, by decide⟩ ⟨by decide, by decide⟩ (s_aln C0 (d_X5_readFrom_24) hgz (s_lds C0 hE (i := 6) rfl (d_X5_readFrom_25) hgz (s_callVN C0 hE (c_X9_wordIs l) wg665 wn780 wg664 ws22 wg2 ⟨by decide, by decide⟩ (by decide +kernel) (c0 := 9) rfl ⟨by decide, by decide⟩ ⟨by decide, by decide⟩ (d_X5_readFrom_27) (fun x hx => (hno x hx).elim) ⟨by decide, by decide⟩ ⟨by decide, by decide⟩ (s_zne C0 (d_X5_readFrom_30) (by decide) hgz hgz (fun _ _ _ h => h) (s_aln C0 (d_X5_readFrom_33) hgz (s_ic C0 (d_X5_readFrom_34) hgz (s_callVN C0 hE (c_X9_refuse l) wg720 wn781 wg719 ws23 wg2 ⟨by decide, by decide⟩ (by decide +kernel) (c0 := 9) rfl ⟨by decide, by decide⟩ ⟨by decide, by decide⟩ (d_X5_readFrom_35) (fun x hx => (hno x hx).elim) ⟨by decide, by decide⟩ ⟨by decide, by decide⟩ (s_goto C0 (tgt := 52) (d_X5_readFrom_38) (by decide) hgz (fun _ _ _ h => h))) (okn rfl))))))))))))) (okn rfl) rfl),
  s_iln C0 (d_X5_readFrom_41) hgz (s_bi C0 (d_X5_readFrom_42) hgz (s_clt C0 (d_X5_readFrom_44) (by decide) hgz hgz (fun _ _ _ h => h) (s_aln C0 (d_X5_readFrom_47) hgz (s_ic C0 (d_X5_readFrom_48) hgz (s_callVN C0 hE (c_X9_refuse l) wg720 wn781 wg719 ws23 wg2 ⟨by decide, by decide⟩ (by decide +kernel) (c0 := 9) rfl ⟨by decide, by decide⟩ ⟨by decide, by decide⟩ (d_X5_readFrom_49) (fun x hx => (hno x hx).elim) ⟨by decide, by decide⟩ ⟨by decide, by decide⟩ (fun _ _ _ h => h)) (okn rfl)))) (okn rfl) rfl),
  s_aln C0 (d_X5_readFrom_52) hgz (s_aln C0 (d_X5_readFrom_53) hgz (s_aln C0 (d_X5_readFrom_54) hgz (s_callV C0 hE (c_X5_readLoan l) wg785 wg782 wg784 ws34 wg4 ⟨by decide, by decide⟩ (by decide +kernel) (c0 := 5) rfl ⟨by decide, by decide⟩ ⟨by decide, by decide⟩ (d_X5_readFrom_55) (fun x hx => (hno x hx).elim) ⟨by decide, by decide⟩ ⟨by decide, by decide⟩ (s_aln C0 (d_X5_readFrom_58) hgz (s_callVN C0 hE (c_X9_readStop l) wg760 wn792 wg759 ws31 wg2 ⟨by decide, by decide⟩ (by decide +kernel) (c0 := 9) rfl ⟨by decide, by decide⟩ ⟨by decide, by decide⟩ (d_X5_readFrom_59) (fun x hx => (hno x hx).elim) ⟨by decide, by decide⟩ ⟨by decide, by decide⟩ (s_inc C0 (d_X5_readFrom_62) hgz (s_goto C0 (tgt := 7) (d_X5_readFrom_65) (by decide) hgz (fun _ _ _ h => h)))))))),
  s_rv C0 hr (d_X5_readFrom_68) ⟨by decide, by decide⟩⟩
theorem c_X5_readFrom (l : Launch) : Ctr l yX5_readFrom cX5_readFrom 4 none 15 308 0 (fun sx => (nf G_X5_readFrom)) := ctr_of (by decide) gz gz ⟨rfl, rfl⟩ (fun p e s m args below meth c D ca ad sx sy A Q as M C0 hE hr hno hF => P_X5_readFrom (L_X5_readFrom C0 hE hr hno) hF)
theorem wg776 : Cond.code ⟨"WeighedHall$Loans", "readFrom", "(LWeighedHall$Tape;LWeighedHall$Plan;)V"⟩ prog_7_method_3_code 4 (Option.none : Option FieldType) ∈ GT := gt_mem 896 (by decide +kernel) rfl
theorem wn773 : Cond.methodLinkNest "WeighedHall" 135 ⟨"WeighedHall$Loans", "readFrom", "(LWeighedHall$Tape;LWeighedHall$Plan;)V"⟩ "WeighedHall" ∈ NT := nt_mem 773 (by decide +kernel) rfl
theorem wg775 : Cond.instanceMethod ⟨"WeighedHall$Loans", "readFrom", "(LWeighedHall$Tape;LWeighedHall$Plan;)V"⟩ ∈ GT := gt_mem 895 (by decide +kernel) rfl
theorem ws33 : Cond.selects "WeighedHall$Loans" ⟨"WeighedHall$Loans", "readFrom", "(LWeighedHall$Tape;LWeighedHall$Plan;)V"⟩ ⟨"WeighedHall$Loans", "readFrom", "(LWeighedHall$Tape;LWeighedHall$Plan;)V"⟩ ∈ GT := gt_mem 33 (by decide +kernel) rfl
theorem wg397 : Cond.fieldLink "WeighedHall" 33 "WeighedHall" "spareLoans" "LWeighedHall$Loans;" ∈ GT := gt_mem 517 (by decide +kernel) rfl
theorem wn173 : Cond.fieldLinkNest "WeighedHall" 138 "WeighedHall$Loans" "number" "I" "WeighedHall" ∈ NT := nt_mem 173 (by decide +kernel) rfl
theorem d_X10_lend_0 : decode cX10_lend 0 = .ok (.aload_n 0, 1) := by decide +kernel
theorem d_X10_lend_1 : decode cX10_lend 1 = .ok (.iload_n 1, 1) := by decide +kernel
theorem d_X10_lend_2 : decode cX10_lend 2 = .ok (.ifCond .lt 25, 3) := by decide +kernel
theorem d_X10_lend_5 : decode cX10_lend 5 = .ok (.iload_n 1, 1) := by decide +kernel
theorem d_X10_lend_6 : decode cX10_lend 6 = .ok (.aload_n 0, 1) := by decide +kernel
theorem d_X10_lend_7 : decode cX10_lend 7 = .ok (.getfield 10, 3) := by decide +kernel
theorem d_X10_lend_10 : decode cX10_lend 10 = .ok (.getfield 96, 3) := by decide +kernel
theorem d_X10_lend_13 : decode cX10_lend 13 = .ok (.if_icmp .gt 14, 3) := by decide +kernel
theorem d_X10_lend_16 : decode cX10_lend 16 = .ok (.iload_n 1, 1) := by decide +kernel
theorem d_X10_lend_17 : decode cX10_lend 17 = .ok (.sipush 300, 3) := by decide +kernel
theorem d_X10_lend_20 : decode cX10_lend 20 = .ok (.if_icmp .gt 7, 3) := by decide +kernel
theorem d_X10_lend_23 : decode cX10_lend 23 = .ok (.iconst 1, 1) := by decide +kernel
theorem d_X10_lend_24 : decode cX10_lend 24 = .ok (.goto 4, 3) := by decide +kernel
theorem d_X10_lend_27 : decode cX10_lend 27 = .ok (.iconst 0, 1) := by decide +kernel
theorem d_X10_lend_28 : decode cX10_lend 28 = .ok (.invokevirtual 104, 3) := by decide +kernel
theorem d_X10_lend_31 : decode cX10_lend 31 = .ok (.aload_n 0, 1) := by decide +kernel
theorem d_X10_lend_32 : decode cX10_lend 32 = .ok (.getfield 10, 3) := by decide +kernel
theorem d_X10_lend_35 : decode cX10_lend 35 = .ok (.iload_n 1, 1) := by decide +kernel
theorem d_X10_lend_36 : decode cX10_lend 36 = .ok (.invokevirtual 108, 3) := by decide +kernel
theorem d_X10_lend_39 : decode cX10_lend 39 = .ok (.aload_n 0, 1) := by decide +kernel
theorem d_X10_lend_40 : decode cX10_lend 40 = .ok (.getfield 33, 3) := by decide +kernel
theorem d_X10_lend_43 : decode cX10_lend 43 = .ok (.aload_n 0, 1) := by decide +kernel
theorem d_X10_lend_44 : decode cX10_lend 44 = .ok (.getfield 10, 3) := by decide +kernel
theorem d_X10_lend_47 : decode cX10_lend 47 = .ok (.aload_n 0, 1) := by decide +kernel
theorem d_X10_lend_48 : decode cX10_lend 48 = .ok (.getfield 19, 3) := by decide +kernel
theorem d_X10_lend_51 : decode cX10_lend 51 = .ok (.invokevirtual 135, 3) := by decide +kernel
theorem d_X10_lend_54 : decode cX10_lend 54 = .ok (.aload_n 0, 1) := by decide +kernel
theorem d_X10_lend_55 : decode cX10_lend 55 = .ok (.getfield 10, 3) := by decide +kernel
theorem d_X10_lend_58 : decode cX10_lend 58 = .ok (.invokevirtual 115, 3) := by decide +kernel
theorem d_X10_lend_61 : decode cX10_lend 61 = .ok (.ifCond .ne 14, 3) := by decide +kernel
theorem d_X10_lend_64 : decode cX10_lend 64 = .ok (.aload_n 0, 1) := by decide +kernel
theorem d_X10_lend_65 : decode cX10_lend 65 = .ok (.getfield 10, 3) := by decide +kernel
theorem d_X10_lend_68 : decode cX10_lend 68 = .ok (.getfield 119, 3) := by decide +kernel
theorem d_X10_lend_71 : decode cX10_lend 71 = .ok (.bipush 10, 2) := by decide +kernel
theorem d_X10_lend_73 : decode cX10_lend 73 = .ok (.isub, 1) := by decide +kernel
theorem d_X10_lend_74 : decode cX10_lend 74 = .ok (.ireturn, 1) := by decide +kernel
theorem d_X10_lend_75 : decode cX10_lend 75 = .ok (.aload_n 0, 1) := by decide +kernel
theorem d_X10_lend_76 : decode cX10_lend 76 = .ok (.getfield 29, 3) := by decide +kernel
theorem d_X10_lend_79 : decode cX10_lend 79 = .ok (.astore_n 2, 1) := by decide +kernel
theorem d_X10_lend_80 : decode cX10_lend 80 = .ok (.aload_n 0, 1) := by decide +kernel
theorem d_X10_lend_81 : decode cX10_lend 81 = .ok (.aload_n 0, 1) := by decide +kernel
theorem d_X10_lend_82 : decode cX10_lend 82 = .ok (.getfield 33, 3) := by decide +kernel
theorem d_X10_lend_85 : decode cX10_lend 85 = .ok (.putfield 29, 3) := by decide +kernel
theorem d_X10_lend_88 : decode cX10_lend 88 = .ok (.aload_n 0, 1) := by decide +kernel
theorem d_X10_lend_89 : decode cX10_lend 89 = .ok (.aload_n 2, 1) := by decide +kernel
theorem d_X10_lend_90 : decode cX10_lend 90 = .ok (.putfield 33, 3) := by decide +kernel
theorem d_X10_lend_93 : decode cX10_lend 93 = .ok (.aload_n 0, 1) := by decide +kernel
theorem d_X10_lend_94 : decode cX10_lend 94 = .ok (.invokevirtual 129, 3) := by decide +kernel
theorem d_X10_lend_97 : decode cX10_lend 97 = .ok (.aload_n 0, 1) := by decide +kernel
theorem d_X10_lend_98 : decode cX10_lend 98 = .ok (.getfield 29, 3) := by decide +kernel
theorem d_X10_lend_101 : decode cX10_lend 101 = .ok (.getfield 138, 3) := by decide +kernel
theorem d_X10_lend_104 : decode cX10_lend 104 = .ok (.ireturn, 1) := by decide +kernel
set_option maxRecDepth 100000 in
theorem L_X10_lend {p : Program} {l : Launch} {e : Env} {s : State} {m : MethodId} {args : Array Value} {below : List Frame} {meth : Method} {c : Code} {D : va_G} {ca : Nat → ClassId} {ad sx sy : Nat → Nat} {A : Nat → Prop} {Q : QT} (hl0 : l.stackTraces = false) (C0 : CX p s m args meth c cX10_lend 3 yX10_lend.cls D ca ad A) (hE : EX sx sy A s s.heap) (hr : meth.sig.returnType = (some .int)) (hno : ∀ x ∈ c.exceptionTable.toList, False) : R_X10_lend (JW p l e { frames := 16, cells := 1, slots := 6 * 1, locals := 331 } s m args below meth c 3 D ca ad A (vx_MQ below (Qn D ca ad A Q) (Qx D ca ad A Q) args s 1 (6 * 1) A) (gl [(28, 1)]) (gl6 [(28, 1)]) true) Q := ⟨s_aln C0 (d_X10_lend_0) (hgq rfl) (s_iln C0 (d_X10_lend_1) (hgq rfl) (s_zlt C0 (d_X10_lend_2) (by decide) (hgq rfl) (hgq rfl) (fun _ _ _ h => h) (s_iln C0 (d_X10_lend_5) (hgq rfl) (s_aln C0 (d_X10_lend_6) (hgq rfl) (s_gr C0 (j := 0) (c0 := 10) rfl gX10 (by decide) rfl rfl wg393 (d_X10_lend_7) (hgq rfl) (s_giN C0 (j := 1) (c0 := 9) rfl gX9 (by decide) rfl (by decide) wn40 (d_X10_lend_10) (hgq rfl) (s_cgt C0 (d_X10_lend_13) (by decide) (hgq rfl) (hgq rfl) (fun _ _ _ h => h) (s_iln C0 (d_X10_lend_16) (hgq rfl) (s_si C0 (d_X10_lend_17) (hgq rfl) (s_cgt C0 (d_X10_lend_20) (by decide) (hgq rfl) (hgq rfl) (fun _ _ _ h => h) (s_ic C0 (d_X10_lend_23) (hgq rfl) (s_goto C0 (tgt := 28) (d_X10_lend_24) (by decide) (hgq rfl) (fun _ _ _ h => h)) (okn rfl))) (okn rfl) rfl))))))))),
  s_ic C0 (d_X10_lend_27) (hgq rfl) (fun _ _ _ h => h) (okn rfl),
  s_callV C0 hE (c_X10_needArgument l hl0) wg563 wg560 wg562 ws13 wg1 ⟨by decide, by decide⟩ (by decide +kernel) (c0 := 10) rfl ⟨by decide, by decide⟩ ⟨by decide, by decide⟩ (d_X10_lend_28) (fun x hx => (hno x hx).elim) ⟨by decide, by decide⟩ ⟨by decide, by decide⟩ (s_aln C0 (d_X10_lend_31) (hgq rfl) (s_gr C0 (j := 0) (c0 := 10) rfl gX10 (by decide) rfl rfl wg393 (d_X10_lend_32) (hgq rfl) (s_iln C0 (d_X10_lend_35) (hgq rfl) (s_callVN C0 hE (c_X9_open l) wg633 wn630 wg632 ws15 wg2 ⟨by decide, by decide⟩ (by decide +kernel) (c0 := 9) rfl ⟨by decide, by decide⟩ ⟨by decide, by decide⟩ (d_X10_lend_36) (fun x hx => (hno x hx).elim) ⟨by decide, by decide⟩ ⟨by decide, by decide⟩ (s_aln C0 (d_X10_lend_39) (hgq rfl) (s_gm C0 (j := 4) (c0 := 10) rfl gX10 (by decide) rfl rfl wg397 (d_X10_lend_40) (hgq rfl) (s_aln C0 (d_X10_lend_43) (hgq rfl) (s_gr C0 (j := 0) (c0 := 10) rfl gX10 (by decide) rfl rfl wg393 (d_X10_lend_44) (hgq rfl) (s_aln C0 (d_X10_lend_47) (hgq rfl) (s_gm C0 (j := 1) (c0 := 10) rfl gX10 (by decide) rfl rfl wg394 (d_X10_lend_48) (hgq rfl) (s_callVN C0 hE (c_X5_readFrom l) wg776 wn773 wg775 ws33 wg4 ⟨by decide, by decide⟩ (by decide +kernel) (c0 := 5) rfl ⟨by decide, by decide⟩ ⟨by decide, by decide⟩ (d_X10_lend_51) (fun x hx => (hno x hx).elim) ⟨by decide, by decide⟩ ⟨by decide, by decide⟩ (s_aln C0 (d_X10_lend_54) (hgq rfl) (s_gr C0 (j := 0) (c0 := 10) rfl gX10 (by decide) rfl rfl wg393 (d_X10_lend_55) (hgq rfl) (s_callVN C0 hE (c_X9_isSound l) wg648 wn761 wg647 ws18 wg2 ⟨by decide, by decide⟩ (by decide +kernel) (c0 := 9) rfl ⟨by decide, by decide⟩ ⟨by decide, by decide⟩ (d_X10_lend_58) (fun x hx => (hno x hx).elim) ⟨by decide, by decide⟩ ⟨by decide, by decide⟩ (s_zne C0 (d_X10_lend_61) (by decide) (hgq rfl) (hgq rfl) (fun _ _ _ h => h) (s_aln C0 (d_X10_lend_64) (hgq rfl) (s_gr C0 (j := 0) (c0 := 10) rfl gX10 (by decide) rfl rfl wg393 (d_X10_lend_65) (hgq rfl) (s_giN C0 (j := 5) (c0 := 9) rfl gX9 (by decide) rfl (by decide) wn46 (d_X10_lend_68) (hgq rfl) (s_bi C0 (d_X10_lend_71) (hgq rfl) (s_sub C0 (d_X10_lend_73) (hgq rfl) (s_ri C0 hr (d_X10_lend_74) ⟨by decide, by decide⟩)) (okn rfl) rfl))))))))))))))))))),
  s_aln C0 (d_X10_lend_75) (hgq rfl) (s_gm C0 (j := 3) (c0 := 10) rfl gX10 (by decide) rfl rfl wg396 (d_X10_lend_76) (hgq rfl) (s_asn C0 (d_X10_lend_79) (hgq rfl) (s_aln C0 (d_X10_lend_80) (hgq rfl) (s_aln C0 (d_X10_lend_81) (hgq rfl) (s_gm C0 (j := 4) (c0 := 10) rfl gX10 (by decide) rfl rfl wg397 (d_X10_lend_82) (hgq rfl) (s_pm C0 (j := 3) (c0 := 10) rfl gX10 tyX10_ok nmX10 (by decide) rfl rfl rfl rfl wg396 (d_X10_lend_85) (hgq rfl) (s_aln C0 (d_X10_lend_88) (hgq rfl) (s_aln C0 (d_X10_lend_89) (hgq rfl) (s_pm C0 (j := 4) (c0 := 10) rfl gX10 tyX10_ok nmX10 (by decide) rfl rfl rfl rfl wg397 (d_X10_lend_90) (hgq rfl) (s_aln C0 (d_X10_lend_93) (hgq rfl) (s_callV C0 hE (c_X10_startAnew l) wg523 wg520 wg522 ws10 wg1 ⟨by decide, by decide⟩ (by decide +kernel) (c0 := 10) rfl ⟨by decide, by decide⟩ ⟨by decide, by decide⟩ (d_X10_lend_94) (fun x hx => (hno x hx).elim) ⟨by decide, by decide⟩ ⟨by decide, by decide⟩ (s_aln C0 (d_X10_lend_97) (hgq rfl) (s_gm C0 (j := 3) (c0 := 10) rfl gX10 (by decide) rfl rfl wg396 (d_X10_lend_98) (hgq rfl) (s_giN C0 (j := 0) (c0 := 5) rfl gX5 (by decide) rfl (by decide) wn173 (d_X10_lend_101) (hgq rfl) (s_ri C0 hr (d_X10_lend_104) ⟨by decide, by decide⟩)))))))))))))))⟩
theorem c_X10_lend (l : Launch) (hl0 : l.stackTraces = false) : Ctr l yX10_lend cX10_lend 3 (some .int) 16 331 1 (fun sx => F_X10_lend) := ctr_of (by decide) (gl [(28, 1)]) (gl6 [(28, 1)]) ⟨rfl, rfl⟩ (fun p e s m args below meth c D ca ad sx sy A Q as M C0 hE hr hno hF => P_X10_lend (L_X10_lend hl0 C0 hE hr hno) hF)
theorem wg972 : Cond.code ⟨"WeighedHall", "isLaw", "(I)Z"⟩ prog_1_method_39_code 1 (Option.some .boolean) ∈ GT := gt_mem 1092 (by decide +kernel) rfl
theorem wg970 : Cond.methodLink "WeighedHall" 215 ⟨"WeighedHall", "isLaw", "(I)Z"⟩ ∈ GT := gt_mem 1090 (by decide +kernel) rfl
theorem wg971 : Cond.static ⟨"WeighedHall", "isLaw", "(I)Z"⟩ ∈ GT := gt_mem 1091 (by decide +kernel) rfl
theorem wn973 : Cond.methodLinkNest "WeighedHall" 218 ⟨"WeighedHall$Chronicle", "isPassed", "(II)Z"⟩ "WeighedHall" ∈ NT := nt_mem 973 (by decide +kernel) rfl
theorem d_X10_motion_0 : decode cX10_motion 0 = .ok (.aload_n 0, 1) := by decide +kernel
theorem d_X10_motion_1 : decode cX10_motion 1 = .ok (.aload_n 0, 1) := by decide +kernel
theorem d_X10_motion_2 : decode cX10_motion 2 = .ok (.getfield 19, 3) := by decide +kernel
theorem d_X10_motion_5 : decode cX10_motion 5 = .ok (.iload_n 1, 1) := by decide +kernel
theorem d_X10_motion_6 : decode cX10_motion 6 = .ok (.invokevirtual 212, 3) := by decide +kernel
theorem d_X10_motion_9 : decode cX10_motion 9 = .ok (.invokevirtual 160, 3) := by decide +kernel
theorem d_X10_motion_12 : decode cX10_motion 12 = .ok (.aload_n 0, 1) := by decide +kernel
theorem d_X10_motion_13 : decode cX10_motion 13 = .ok (.iload_n 2, 1) := by decide +kernel
theorem d_X10_motion_14 : decode cX10_motion 14 = .ok (.invokestatic 215, 3) := by decide +kernel
theorem d_X10_motion_17 : decode cX10_motion 17 = .ok (.ifCond .eq 16, 3) := by decide +kernel
theorem d_X10_motion_20 : decode cX10_motion 20 = .ok (.iload_n 3, 1) := by decide +kernel
theorem d_X10_motion_21 : decode cX10_motion 21 = .ok (.ifCond .lt 12, 3) := by decide +kernel
theorem d_X10_motion_24 : decode cX10_motion 24 = .ok (.iload_n 3, 1) := by decide +kernel
theorem d_X10_motion_25 : decode cX10_motion 25 = .ok (.iconst 2, 1) := by decide +kernel
theorem d_X10_motion_26 : decode cX10_motion 26 = .ok (.if_icmp .gt 7, 3) := by decide +kernel
theorem d_X10_motion_29 : decode cX10_motion 29 = .ok (.iconst 1, 1) := by decide +kernel
theorem d_X10_motion_30 : decode cX10_motion 30 = .ok (.goto 4, 3) := by decide +kernel
theorem d_X10_motion_33 : decode cX10_motion 33 = .ok (.iconst 0, 1) := by decide +kernel
theorem d_X10_motion_34 : decode cX10_motion 34 = .ok (.invokevirtual 104, 3) := by decide +kernel
theorem d_X10_motion_37 : decode cX10_motion 37 = .ok (.iload_n 3, 1) := by decide +kernel
theorem d_X10_motion_38 : decode cX10_motion 38 = .ok (.iconst 2, 1) := by decide +kernel
theorem d_X10_motion_39 : decode cX10_motion 39 = .ok (.if_icmp .ne 21, 3) := by decide +kernel
theorem d_X10_motion_42 : decode cX10_motion 42 = .ok (.aload_n 0, 1) := by decide +kernel
theorem d_X10_motion_43 : decode cX10_motion 43 = .ok (.invokevirtual 186, 3) := by decide +kernel
theorem d_X10_motion_46 : decode cX10_motion 46 = .ok (.iload_n 1, 1) := by decide +kernel
theorem d_X10_motion_47 : decode cX10_motion 47 = .ok (.iload_n 2, 1) := by decide +kernel
theorem d_X10_motion_48 : decode cX10_motion 48 = .ok (.invokevirtual 218, 3) := by decide +kernel
theorem d_X10_motion_51 : decode cX10_motion 51 = .ok (.ifCond .eq 7, 3) := by decide +kernel
theorem d_X10_motion_54 : decode cX10_motion 54 = .ok (.iconst 1, 1) := by decide +kernel
theorem d_X10_motion_55 : decode cX10_motion 55 = .ok (.goto 4, 3) := by decide +kernel
theorem d_X10_motion_58 : decode cX10_motion 58 = .ok (.iconst 0, 1) := by decide +kernel
theorem d_X10_motion_59 : decode cX10_motion 59 = .ok (.ireturn, 1) := by decide +kernel
theorem d_X10_motion_60 : decode cX10_motion 60 = .ok (.aload_n 0, 1) := by decide +kernel
theorem d_X10_motion_61 : decode cX10_motion 61 = .ok (.invokevirtual 186, 3) := by decide +kernel
theorem d_X10_motion_64 : decode cX10_motion 64 = .ok (.iload_n 1, 1) := by decide +kernel
theorem d_X10_motion_65 : decode cX10_motion 65 = .ok (.iload_n 2, 1) := by decide +kernel
theorem d_X10_motion_66 : decode cX10_motion 66 = .ok (.iload_n 3, 1) := by decide +kernel
theorem d_X10_motion_67 : decode cX10_motion 67 = .ok (.invokevirtual 222, 3) := by decide +kernel
theorem d_X10_motion_70 : decode cX10_motion 70 = .ok (.ireturn, 1) := by decide +kernel
set_option maxRecDepth 100000 in
theorem L_X10_motion {p : Program} {l : Launch} {e : Env} {s : State} {m : MethodId} {args : Array Value} {below : List Frame} {meth : Method} {c : Code} {D : va_G} {ca : Nat → ClassId} {ad sx sy : Nat → Nat} {A : Nat → Prop} {Q : QT} (hl0 : l.stackTraces = false) (C0 : CX p s m args meth c cX10_motion 4 yX10_motion.cls D ca ad A) (hE : EX sx sy A s s.heap) (hr : meth.sig.returnType = (some .int)) (hno : ∀ x ∈ c.exceptionTable.toList, False) : R_X10_motion (JW p l e { frames := 16, cells := 2, slots := 6 * 2, locals := 336 } s m args below meth c 4 D ca ad A (vx_MQ below (Qn D ca ad A Q) (Qx D ca ad A Q) args s 2 (6 * 2) A) (gl [(9, 1), (34, 1)]) (gl6 [(9, 1), (34, 1)]) true) Q := ⟨s_aln C0 (d_X10_motion_0) (hgq rfl) (s_aln C0 (d_X10_motion_1) (hgq rfl) (s_gm C0 (j := 1) (c0 := 10) rfl gX10 (by decide) rfl rfl wg394 (d_X10_motion_2) (hgq rfl) (s_iln C0 (d_X10_motion_5) (hgq rfl) (s_callVN C0 hE (c_X6_hasMotion l) wg969 wn966 wg968 ws57 wg3 ⟨by decide, by decide⟩ (by decide +kernel) (c0 := 6) rfl ⟨by decide, by decide⟩ ⟨by decide, by decide⟩ (d_X10_motion_6) (fun x hx => (hno x hx).elim) ⟨by decide, by decide⟩ ⟨by decide, by decide⟩ (s_callV C0 hE (c_X10_needElement l hl0) wg815 wg812 wg814 ws37 wg1 ⟨by decide, by decide⟩ (by decide +kernel) (c0 := 10) rfl ⟨by decide, by decide⟩ ⟨by decide, by decide⟩ (d_X10_motion_9) (fun x hx => (hno x hx).elim) ⟨by decide, by decide⟩ ⟨by decide, by decide⟩ (s_aln C0 (d_X10_motion_12) (hgq rfl) (s_iln C0 (d_X10_motion_13) (hgq rfl) (s_callS C0 hE (c_X10_isLaw l) wg972 wg970 wg971 wg1 ⟨by decide, by decide⟩ (by decide +kernel) ⟨by decide, by decide⟩ ⟨by decide, by decide⟩ (d_X10_motion_14) (fun x hx => (hno x hx).elim) ⟨by decide, by decide⟩ ⟨by decide, by decide⟩ (s_zeq C0 (d_X10_motion_17) (by decide) (hgq rfl) (hgq rfl) (fun _ _ _ h => h) (s_iln C0 (d_X10_motion_20) (hgq rfl) (s_zlt C0 (d_X10_motion_21) (by decide) (hgq rfl) (hgq rfl) (fun _ _ _ h => h) (s_iln C0 (d_X10_motion_24) (hgq rfl) (s_ic C0 (d_X10_motion_25) (hgq rfl) (s_cgt C0 (d_X10_motion_26) (by decide) (hgq rfl) (hgq rfl) (fun _ _ _ h => h) (s_ic C0 (d_X10_motion_29) (hgq rfl) (s_goto C0 (tgt := 34) (d_X10_motion_30) (by decide) (hgq rfl) (fun _ _ _ h => h)) (okn rfl))) (okn rfl)))))))))))))),
  s_ic C0 (d_X10_motion_33) (hgq rfl) (fun _ _ _ h => h) (okn rfl),
  s_callV C0 hE (c_X10_needArgument l hl0) wg563 wg560 wg562 ws13 wg1 ⟨by decide, by decide⟩ (by decide +kernel) (c0 := 10) rfl ⟨by decide, by decide⟩ ⟨by decide, by decide⟩ (d_X10_motion_34) (fun x hx => (hno x hx).elim) ⟨by decide, by decide⟩ ⟨by decide, by decide⟩ (s_iln C0 (d_X10_motion_37) (hgq rfl) (s_ic C0 (d_X10_motion_38) (hgq rfl) (s_cne C0 (d_X10_motion_39) (by decide) (hgq rfl) (hgq rfl) (fun _ _ _ h => h) (s_aln C0 (d_X10_motion_42) (hgq rfl) (s_callV C0 hE (c_X10_chronicled l) wg844 wg841 wg843 ws38 wg1 ⟨by decide, by decide⟩ (by decide +kernel) (c0 := 10) rfl ⟨by decide, by decide⟩ ⟨by decide, by decide⟩ (d_X10_motion_43) (fun x hx => (hno x hx).elim) ⟨by decide, by decide⟩ ⟨by decide, by decide⟩ (s_iln C0 (d_X10_motion_46) (hgq rfl) (s_iln C0 (d_X10_motion_47) (hgq rfl) (s_callVN C0 hE (c_X3_isPassed l) wg976 wn973 wg975 ws58 wg6 ⟨by decide, by decide⟩ (by decide +kernel) (c0 := 3) rfl ⟨by decide, by decide⟩ ⟨by decide, by decide⟩ (d_X10_motion_48) (fun x hx => (hno x hx).elim) ⟨by decide, by decide⟩ ⟨by decide, by decide⟩ (s_zeq C0 (d_X10_motion_51) (by decide) (hgq rfl) (hgq rfl) (fun _ _ _ h => h) (s_ic C0 (d_X10_motion_54) (hgq rfl) (s_goto C0 (tgt := 59) (d_X10_motion_55) (by decide) (hgq rfl) (fun _ _ _ h => h)) (okn rfl))))))))) (okn rfl))),
  s_ic C0 (d_X10_motion_58) (hgq rfl) (fun _ _ _ h => h) (okn rfl),
  s_ri C0 hr (d_X10_motion_59) ⟨by decide, by decide⟩,
  s_aln C0 (d_X10_motion_60) (hgq rfl) (s_callV C0 hE (c_X10_chronicled l) wg844 wg841 wg843 ws38 wg1 ⟨by decide, by decide⟩ (by decide +kernel) (c0 := 10) rfl ⟨by decide, by decide⟩ ⟨by decide, by decide⟩ (d_X10_motion_61) (fun x hx => (hno x hx).elim) ⟨by decide, by decide⟩ ⟨by decide, by decide⟩ (s_iln C0 (d_X10_motion_64) (hgq rfl) (s_iln C0 (d_X10_motion_65) (hgq rfl) (s_iln C0 (d_X10_motion_66) (hgq rfl) (s_callVN C0 hE (c_X3_counted l) wg980 wn981 wg979 ws59 wg6 ⟨by decide, by decide⟩ (by decide +kernel) (c0 := 3) rfl ⟨by decide, by decide⟩ ⟨by decide, by decide⟩ (d_X10_motion_67) (fun x hx => (hno x hx).elim) ⟨by decide, by decide⟩ ⟨by decide, by decide⟩ (s_ri C0 hr (d_X10_motion_70) ⟨by decide, by decide⟩))))))⟩
theorem c_X10_motion (l : Launch) (hl0 : l.stackTraces = false) : Ctr l yX10_motion cX10_motion 4 (some .int) 16 336 2 (fun sx => F_X10_motion) := ctr_of (by decide) (gl [(9, 1), (34, 1)]) (gl6 [(9, 1), (34, 1)]) ⟨rfl, rfl⟩ (fun p e s m args below meth c D ca ad sx sy A Q as M C0 hE hr hno hF => P_X10_motion (L_X10_motion hl0 C0 hE hr hno) hF)
theorem d_X7_ordersWithAhead_0 : decode cX7_ordersWithAhead 0 = .ok (.iload_n 0, 1) := by decide +kernel
theorem d_X7_ordersWithAhead_1 : decode cX7_ordersWithAhead 1 = .ok (.ifCond .eq 8, 3) := by decide +kernel
theorem d_X7_ordersWithAhead_4 : decode cX7_ordersWithAhead 4 = .ok (.iload_n 0, 1) := by decide +kernel
theorem d_X7_ordersWithAhead_5 : decode cX7_ordersWithAhead 5 = .ok (.iconst 3, 1) := by decide +kernel
theorem d_X7_ordersWithAhead_6 : decode cX7_ordersWithAhead 6 = .ok (.if_icmp .ne 8, 3) := by decide +kernel
theorem d_X7_ordersWithAhead_9 : decode cX7_ordersWithAhead 9 = .ok (.bipush 6, 2) := by decide +kernel
theorem d_X7_ordersWithAhead_11 : decode cX7_ordersWithAhead 11 = .ok (.goto 4, 3) := by decide +kernel
theorem d_X7_ordersWithAhead_14 : decode cX7_ordersWithAhead 14 = .ok (.iconst 2, 1) := by decide +kernel
theorem d_X7_ordersWithAhead_15 : decode cX7_ordersWithAhead 15 = .ok (.ireturn, 1) := by decide +kernel
set_option maxRecDepth 100000 in
theorem L_X7_ordersWithAhead {p : Program} {l : Launch} {e : Env} {s : State} {m : MethodId} {args : Array Value} {below : List Frame} {meth : Method} {c : Code} {D : va_G} {ca : Nat → ClassId} {ad sx sy : Nat → Nat} {A : Nat → Prop} {Q : QT} (C0 : CX p s m args meth c cX7_ordersWithAhead 1 yX7_ordersWithAhead.cls D ca ad A) (hE : EX sx sy A s s.heap) (hr : meth.sig.returnType = (some .int)) (hno : ∀ x ∈ c.exceptionTable.toList, False) : R_X7_ordersWithAhead (JW p l e { frames := 10, cells := 0, slots := 6 * 0, locals := 200 } s m args below meth c 1 D ca ad A (vx_MQ below (Qn D ca ad A Q) (Qx D ca ad A Q) args s 0 (6 * 0) A) gz gz true) Q := ⟨s_iln C0 (d_X7_ordersWithAhead_0) hgz (s_zeq C0 (d_X7_ordersWithAhead_1) (by decide) hgz hgz (fun _ _ _ h => h) (s_iln C0 (d_X7_ordersWithAhead_4) hgz (s_ic C0 (d_X7_ordersWithAhead_5) hgz (s_cne C0 (d_X7_ordersWithAhead_6) (by decide) hgz hgz (fun _ _ _ h => h) (fun _ _ _ h => h)) (okn rfl)))),
  s_bi C0 (d_X7_ordersWithAhead_9) hgz (s_goto C0 (tgt := 15) (d_X7_ordersWithAhead_11) (by decide) hgz (fun _ _ _ h => h)) (okn rfl) rfl,
  s_ic C0 (d_X7_ordersWithAhead_14) hgz (fun _ _ _ h => h) (okn rfl),
  s_ri C0 hr (d_X7_ordersWithAhead_15) ⟨by decide, by decide⟩⟩
theorem c_X7_ordersWithAhead (l : Launch) : Ctr l yX7_ordersWithAhead cX7_ordersWithAhead 1 (some .int) 10 200 0 (fun sx => (nf G_X7_ordersWithAhead)) := ctr_of (by decide) gz gz ⟨rfl, rfl⟩ (fun p e s m args below meth c D ca ad sx sy A Q as M C0 hE hr hno hF => P_X7_ordersWithAhead (L_X7_ordersWithAhead C0 hE hr hno) hF)
theorem wg344 : Cond.fieldLink "WeighedHall$Scales" 27 "WeighedHall$Scales" "all" "I" ∈ GT := gt_mem 464 (by decide +kernel) rfl
theorem d_X7_isMore_0 : decode cX7_isMore 0 = .ok (.iconst 2, 1) := by decide +kernel
theorem d_X7_isMore_1 : decode cX7_isMore 1 = .ok (.iload_n 1, 1) := by decide +kernel
theorem d_X7_isMore_2 : decode cX7_isMore 2 = .ok (.imul, 1) := by decide +kernel
theorem d_X7_isMore_3 : decode cX7_isMore 3 = .ok (.aload_n 0, 1) := by decide +kernel
theorem d_X7_isMore_4 : decode cX7_isMore 4 = .ok (.getfield 27, 3) := by decide +kernel
theorem d_X7_isMore_7 : decode cX7_isMore 7 = .ok (.if_icmp .le 7, 3) := by decide +kernel
theorem d_X7_isMore_10 : decode cX7_isMore 10 = .ok (.iconst 1, 1) := by decide +kernel
theorem d_X7_isMore_11 : decode cX7_isMore 11 = .ok (.goto 4, 3) := by decide +kernel
theorem d_X7_isMore_14 : decode cX7_isMore 14 = .ok (.iconst 0, 1) := by decide +kernel
theorem d_X7_isMore_15 : decode cX7_isMore 15 = .ok (.ireturn, 1) := by decide +kernel
set_option maxRecDepth 100000 in
theorem L_X7_isMore {p : Program} {l : Launch} {e : Env} {s : State} {m : MethodId} {args : Array Value} {below : List Frame} {meth : Method} {c : Code} {D : va_G} {ca : Nat → ClassId} {ad sx sy : Nat → Nat} {A : Nat → Prop} {Q : QT} (C0 : CX p s m args meth c cX7_isMore 2 yX7_isMore.cls D ca ad A) (hE : EX sx sy A s s.heap) (hr : meth.sig.returnType = (some .boolean)) (hno : ∀ x ∈ c.exceptionTable.toList, False) : R_X7_isMore (JW p l e { frames := 10, cells := 0, slots := 6 * 0, locals := 200 } s m args below meth c 2 D ca ad A (vx_MQ below (Qn D ca ad A Q) (Qx D ca ad A Q) args s 0 (6 * 0) A) gz gz true) Q := ⟨s_ic C0 (d_X7_isMore_0) hgz (s_iln C0 (d_X7_isMore_1) hgz (s_mul C0 (d_X7_isMore_2) hgz (s_aln C0 (d_X7_isMore_3) hgz (s_gi C0 (j := 0) (c0 := 7) rfl gX7 (by decide) rfl (by decide) wg344 (d_X7_isMore_4) hgz (s_cle C0 (d_X7_isMore_7) (by decide) hgz hgz (fun _ _ _ h => h) (s_ic C0 (d_X7_isMore_10) hgz (s_goto C0 (tgt := 15) (d_X7_isMore_11) (by decide) hgz (fun _ _ _ h => h)) (okn rfl))))))) (okn rfl),
  s_ic C0 (d_X7_isMore_14) hgz (fun _ _ _ h => h) (okn rfl),
  s_rz C0 hr (d_X7_isMore_15) ⟨by decide, by decide⟩⟩
theorem c_X7_isMore (l : Launch) : Ctr l yX7_isMore cX7_isMore 2 (some .boolean) 10 200 0 (fun sx => (nf G_X7_isMore)) := ctr_of (by decide) gz gz ⟨rfl, rfl⟩ (fun p e s m args below meth c D ca ad sx sy A Q as M C0 hE hr hno hF => P_X7_isMore (L_X7_isMore C0 hE hr hno) hF)
theorem wg348 : Cond.fieldLink "WeighedHall$Scales" 18 "WeighedHall$Scales" "partyOwn" "[I" ∈ GT := gt_mem 468 (by decide +kernel) rfl
theorem wn489 : Cond.methodLinkNest "WeighedHall$Scales" 42 ⟨"WeighedHall", "isIn", "(II)Z"⟩ "WeighedHall" ∈ NT := nt_mem 489 (by decide +kernel) rfl
theorem wg495 : Cond.code ⟨"WeighedHall$Scales", "isMore", "(I)Z"⟩ prog_9_method_5_code 2 (Option.some .boolean) ∈ GT := gt_mem 615 (by decide +kernel) rfl
theorem wg10 : Cond.initialized "WeighedHall$Scales" ∈ GT := gt_mem 130 (by decide +kernel) rfl
theorem wg492 : Cond.methodLink "WeighedHall$Scales" 46 ⟨"WeighedHall$Scales", "isMore", "(I)Z"⟩ ∈ GT := gt_mem 612 (by decide +kernel) rfl
theorem wg494 : Cond.instanceMethod ⟨"WeighedHall$Scales", "isMore", "(I)Z"⟩ ∈ GT := gt_mem 614 (by decide +kernel) rfl
theorem ws5 : Cond.selects "WeighedHall$Scales" ⟨"WeighedHall$Scales", "isMore", "(I)Z"⟩ ⟨"WeighedHall$Scales", "isMore", "(I)Z"⟩ ∈ GT := gt_mem 5 (by decide +kernel) rfl
theorem d_X7_isWinning_0 : decode cX7_isWinning 0 = .ok (.iconst 0, 1) := by decide +kernel
theorem d_X7_isWinning_1 : decode cX7_isWinning 1 = .ok (.istore_n 2, 1) := by decide +kernel
theorem d_X7_isWinning_2 : decode cX7_isWinning 2 = .ok (.iconst 0, 1) := by decide +kernel
theorem d_X7_isWinning_3 : decode cX7_isWinning 3 = .ok (.istore_n 3, 1) := by decide +kernel
theorem d_X7_isWinning_4 : decode cX7_isWinning 4 = .ok (.iload_n 3, 1) := by decide +kernel
theorem d_X7_isWinning_5 : decode cX7_isWinning 5 = .ok (.iconst 4, 1) := by decide +kernel
theorem d_X7_isWinning_6 : decode cX7_isWinning 6 = .ok (.if_icmp .ge 26, 3) := by decide +kernel
theorem d_X7_isWinning_9 : decode cX7_isWinning 9 = .ok (.iload_n 3, 1) := by decide +kernel
theorem d_X7_isWinning_10 : decode cX7_isWinning 10 = .ok (.iload_n 1, 1) := by decide +kernel
theorem d_X7_isWinning_11 : decode cX7_isWinning 11 = .ok (.invokestatic 42, 3) := by decide +kernel
theorem d_X7_isWinning_14 : decode cX7_isWinning 14 = .ok (.ifCond .eq 12, 3) := by decide +kernel
theorem d_X7_isWinning_17 : decode cX7_isWinning 17 = .ok (.iload_n 2, 1) := by decide +kernel
theorem d_X7_isWinning_18 : decode cX7_isWinning 18 = .ok (.aload_n 0, 1) := by decide +kernel
theorem d_X7_isWinning_19 : decode cX7_isWinning 19 = .ok (.getfield 18, 3) := by decide +kernel
theorem d_X7_isWinning_22 : decode cX7_isWinning 22 = .ok (.iload_n 3, 1) := by decide +kernel
theorem d_X7_isWinning_23 : decode cX7_isWinning 23 = .ok (.iaload, 1) := by decide +kernel
theorem d_X7_isWinning_24 : decode cX7_isWinning 24 = .ok (.iadd, 1) := by decide +kernel
theorem d_X7_isWinning_25 : decode cX7_isWinning 25 = .ok (.istore_n 2, 1) := by decide +kernel
theorem d_X7_isWinning_26 : decode cX7_isWinning 26 = .ok (.iinc 3 1, 3) := by decide +kernel
theorem d_X7_isWinning_29 : decode cX7_isWinning 29 = .ok (.goto (-25), 3) := by decide +kernel
theorem d_X7_isWinning_32 : decode cX7_isWinning 32 = .ok (.aload_n 0, 1) := by decide +kernel
theorem d_X7_isWinning_33 : decode cX7_isWinning 33 = .ok (.iload_n 2, 1) := by decide +kernel
theorem d_X7_isWinning_34 : decode cX7_isWinning 34 = .ok (.invokevirtual 46, 3) := by decide +kernel
theorem d_X7_isWinning_37 : decode cX7_isWinning 37 = .ok (.ireturn, 1) := by decide +kernel
set_option maxRecDepth 100000 in
theorem L_X7_isWinning {p : Program} {l : Launch} {e : Env} {s : State} {m : MethodId} {args : Array Value} {below : List Frame} {meth : Method} {c : Code} {D : va_G} {ca : Nat → ClassId} {ad sx sy : Nat → Nat} {A : Nat → Prop} {Q : QT} (C0 : CX p s m args meth c cX7_isWinning 4 yX7_isWinning.cls D ca ad A) (hE : EX sx sy A s s.heap) (hr : meth.sig.returnType = (some .boolean)) (hno : ∀ x ∈ c.exceptionTable.toList, False) : R_X7_isWinning (JW p l e { frames := 11, cells := 0, slots := 6 * 0, locals := 221 } s m args below meth c 4 D ca ad A (vx_MQ below (Qn D ca ad A Q) (Qx D ca ad A Q) args s 0 (6 * 0) A) gz gz true) Q := ⟨s_ic C0 (d_X7_isWinning_0) hgz (s_isn C0 (d_X7_isWinning_1) hgz (s_ic C0 (d_X7_isWinning_2) hgz (s_isn C0 (d_X7_isWinning_3) hgz (fun _ _ _ h => h)) (okn rfl))) (okn rfl),
  s_iln C0 (d_X7_isWinning_4) hgz (s_ic C0 (d_X7_isWinning_5) hgz (s_cge C0 (d_X7_isWinning_6) (by decide) hgz hgz (fun _ _ _ h => h) (s_iln C0 (d_X7_isWinning_9) hgz (s_iln C0 (d_X7_isWinning_10) hgz (s_callSN C0 hE (c_X10_isIn l) wg491 wn489 wg490 wg1 ⟨by decide, by decide⟩ (by decide +kernel) ⟨by decide, by decide⟩ ⟨by decide, by decide⟩ (d_X7_isWinning_11) (fun x hx => (hno x hx).elim) ⟨by decide, by decide⟩ ⟨by decide, by decide⟩ (s_zeq C0 (d_X7_isWinning_14) (by decide) hgz hgz (fun _ _ _ h => h) (s_iln C0 (d_X7_isWinning_17) hgz (s_aln C0 (d_X7_isWinning_18) hgz (s_gr C0 (j := 4) (c0 := 7) rfl gX7 (by decide) rfl rfl wg348 (d_X7_isWinning_19) hgz (s_iln C0 (d_X7_isWinning_22) hgz (s_ia C0 (d_X7_isWinning_23) hgz (s_add C0 (d_X7_isWinning_24) hgz (s_isn C0 (d_X7_isWinning_25) hgz (fun _ _ _ h => h))))))))))))) (okn rfl)),
  s_inc C0 (d_X7_isWinning_26) hgz (s_goto C0 (tgt := 4) (d_X7_isWinning_29) (by decide) hgz (fun _ _ _ h => h)),
  s_aln C0 (d_X7_isWinning_32) hgz (s_iln C0 (d_X7_isWinning_33) hgz (s_callV C0 hE (c_X7_isMore l) wg495 wg492 wg494 ws5 wg10 ⟨by decide, by decide⟩ (by decide +kernel) (c0 := 7) rfl ⟨by decide, by decide⟩ ⟨by decide, by decide⟩ (d_X7_isWinning_34) (fun x hx => (hno x hx).elim) ⟨by decide, by decide⟩ ⟨by decide, by decide⟩ (s_rz C0 hr (d_X7_isWinning_37) ⟨by decide, by decide⟩)))⟩
theorem c_X7_isWinning (l : Launch) : Ctr l yX7_isWinning cX7_isWinning 4 (some .boolean) 11 221 0 (fun sx => (nf G_X7_isWinning)) := ctr_of (by decide) gz gz ⟨rfl, rfl⟩ (fun p e s m args below meth c D ca ad sx sy A Q as M C0 hE hr hno hF => P_X7_isWinning (L_X7_isWinning C0 hE hr hno) hF)
theorem wg1089 : Cond.code ⟨"WeighedHall$Scales", "ordersWithAhead", "(I)I"⟩ prog_9_method_9_code 1 (Option.some .int) ∈ GT := gt_mem 1209 (by decide +kernel) rfl
theorem wg1087 : Cond.methodLink "WeighedHall$Scales" 61 ⟨"WeighedHall$Scales", "ordersWithAhead", "(I)I"⟩ ∈ GT := gt_mem 1207 (by decide +kernel) rfl
theorem wg1088 : Cond.static ⟨"WeighedHall$Scales", "ordersWithAhead", "(I)I"⟩ ∈ GT := gt_mem 1208 (by decide +kernel) rfl
theorem wg1086 : Cond.methodLink "WeighedHall$Scales" 56 ⟨"java/lang/Integer", "bitCount", "(I)I"⟩ ∈ GT := gt_mem 1206 (by decide +kernel) rfl
theorem wg511 : Cond.code ⟨"WeighedHall$Scales", "isWinning", "(I)Z"⟩ prog_9_method_6_code 4 (Option.some .boolean) ∈ GT := gt_mem 631 (by decide +kernel) rfl
theorem wg508 : Cond.methodLink "WeighedHall$Scales" 53 ⟨"WeighedHall$Scales", "isWinning", "(I)Z"⟩ ∈ GT := gt_mem 628 (by decide +kernel) rfl
theorem wg510 : Cond.instanceMethod ⟨"WeighedHall$Scales", "isWinning", "(I)Z"⟩ ∈ GT := gt_mem 630 (by decide +kernel) rfl
theorem ws8 : Cond.selects "WeighedHall$Scales" ⟨"WeighedHall$Scales", "isWinning", "(I)Z"⟩ ⟨"WeighedHall$Scales", "isWinning", "(I)Z"⟩ ∈ GT := gt_mem 8 (by decide +kernel) rfl
theorem d_X7_ordersTurnedBy_0 : decode cX7_ordersTurnedBy 0 = .ok (.iconst 0, 1) := by decide +kernel
theorem d_X7_ordersTurnedBy_1 : decode cX7_ordersTurnedBy 1 = .ok (.istore_n 2, 1) := by decide +kernel
theorem d_X7_ordersTurnedBy_2 : decode cX7_ordersTurnedBy 2 = .ok (.iconst 0, 1) := by decide +kernel
theorem d_X7_ordersTurnedBy_3 : decode cX7_ordersTurnedBy 3 = .ok (.istore_n 3, 1) := by decide +kernel
theorem d_X7_ordersTurnedBy_4 : decode cX7_ordersTurnedBy 4 = .ok (.iload_n 3, 1) := by decide +kernel
theorem d_X7_ordersTurnedBy_5 : decode cX7_ordersTurnedBy 5 = .ok (.bipush 16, 2) := by decide +kernel
theorem d_X7_ordersTurnedBy_7 : decode cX7_ordersTurnedBy 7 = .ok (.if_icmp .ge 47, 3) := by decide +kernel
theorem d_X7_ordersTurnedBy_10 : decode cX7_ordersTurnedBy 10 = .ok (.iload_n 1, 1) := by decide +kernel
theorem d_X7_ordersTurnedBy_11 : decode cX7_ordersTurnedBy 11 = .ok (.iload_n 3, 1) := by decide +kernel
theorem d_X7_ordersTurnedBy_12 : decode cX7_ordersTurnedBy 12 = .ok (.invokestatic 42, 3) := by decide +kernel
theorem d_X7_ordersTurnedBy_15 : decode cX7_ordersTurnedBy 15 = .ok (.ifCond .ne 33, 3) := by decide +kernel
theorem d_X7_ordersTurnedBy_18 : decode cX7_ordersTurnedBy 18 = .ok (.aload_n 0, 1) := by decide +kernel
theorem d_X7_ordersTurnedBy_19 : decode cX7_ordersTurnedBy 19 = .ok (.iload_n 3, 1) := by decide +kernel
theorem d_X7_ordersTurnedBy_20 : decode cX7_ordersTurnedBy 20 = .ok (.invokevirtual 53, 3) := by decide +kernel
theorem d_X7_ordersTurnedBy_23 : decode cX7_ordersTurnedBy 23 = .ok (.ifCond .ne 25, 3) := by decide +kernel
theorem d_X7_ordersTurnedBy_26 : decode cX7_ordersTurnedBy 26 = .ok (.aload_n 0, 1) := by decide +kernel
theorem d_X7_ordersTurnedBy_27 : decode cX7_ordersTurnedBy 27 = .ok (.iload_n 3, 1) := by decide +kernel
theorem d_X7_ordersTurnedBy_28 : decode cX7_ordersTurnedBy 28 = .ok (.iconst 1, 1) := by decide +kernel
theorem d_X7_ordersTurnedBy_29 : decode cX7_ordersTurnedBy 29 = .ok (.iload_n 1, 1) := by decide +kernel
theorem d_X7_ordersTurnedBy_30 : decode cX7_ordersTurnedBy 30 = .ok (.ishl, 1) := by decide +kernel
theorem d_X7_ordersTurnedBy_31 : decode cX7_ordersTurnedBy 31 = .ok (.ior, 1) := by decide +kernel
theorem d_X7_ordersTurnedBy_32 : decode cX7_ordersTurnedBy 32 = .ok (.invokevirtual 53, 3) := by decide +kernel
theorem d_X7_ordersTurnedBy_35 : decode cX7_ordersTurnedBy 35 = .ok (.ifCond .eq 13, 3) := by decide +kernel
theorem d_X7_ordersTurnedBy_38 : decode cX7_ordersTurnedBy 38 = .ok (.iload_n 2, 1) := by decide +kernel
theorem d_X7_ordersTurnedBy_39 : decode cX7_ordersTurnedBy 39 = .ok (.iload_n 3, 1) := by decide +kernel
theorem d_X7_ordersTurnedBy_40 : decode cX7_ordersTurnedBy 40 = .ok (.invokestatic 56, 3) := by decide +kernel
theorem d_X7_ordersTurnedBy_43 : decode cX7_ordersTurnedBy 43 = .ok (.invokestatic 61, 3) := by decide +kernel
theorem d_X7_ordersTurnedBy_46 : decode cX7_ordersTurnedBy 46 = .ok (.iadd, 1) := by decide +kernel
theorem d_X7_ordersTurnedBy_47 : decode cX7_ordersTurnedBy 47 = .ok (.istore_n 2, 1) := by decide +kernel
theorem d_X7_ordersTurnedBy_48 : decode cX7_ordersTurnedBy 48 = .ok (.iinc 3 1, 3) := by decide +kernel
theorem d_X7_ordersTurnedBy_51 : decode cX7_ordersTurnedBy 51 = .ok (.goto (-47), 3) := by decide +kernel
theorem d_X7_ordersTurnedBy_54 : decode cX7_ordersTurnedBy 54 = .ok (.iload_n 2, 1) := by decide +kernel
theorem d_X7_ordersTurnedBy_55 : decode cX7_ordersTurnedBy 55 = .ok (.ireturn, 1) := by decide +kernel
set_option maxRecDepth 100000 in
theorem L_X7_ordersTurnedBy {p : Program} {l : Launch} {e : Env} {s : State} {m : MethodId} {args : Array Value} {below : List Frame} {meth : Method} {c : Code} {D : va_G} {ca : Nat → ClassId} {ad sx sy : Nat → Nat} {A : Nat → Prop} {Q : QT} (C0 : CX p s m args meth c cX7_ordersTurnedBy 4 yX7_ordersTurnedBy.cls D ca ad A) (hE : EX sx sy A s s.heap) (hr : meth.sig.returnType = (some .int)) (hno : ∀ x ∈ c.exceptionTable.toList, False) : R_X7_ordersTurnedBy (JW p l e { frames := 12, cells := 0, slots := 6 * 0, locals := 244 } s m args below meth c 4 D ca ad A (vx_MQ below (Qn D ca ad A Q) (Qx D ca ad A Q) args s 0 (6 * 0) A) gz gz true) Q := ⟨s_ic C0 (d_X7_ordersTurnedBy_0) hgz (s_isn C0 (d_X7_ordersTurnedBy_1) hgz (s_ic C0 (d_X7_ordersTurnedBy_2) hgz (s_isn C0 (d_X7_ordersTurnedBy_3) hgz (fun _ _ _ h => h)) (okn rfl))) (okn rfl),
  s_iln C0 (d_X7_ordersTurnedBy_4) hgz (s_bi C0 (d_X7_ordersTurnedBy_5) hgz (s_cge C0 (d_X7_ordersTurnedBy_7) (by decide) hgz hgz (fun _ _ _ h => h) (s_iln C0 (d_X7_ordersTurnedBy_10) hgz (s_iln C0 (d_X7_ordersTurnedBy_11) hgz (s_callSN C0 hE (c_X10_isIn l) wg491 wn489 wg490 wg1 ⟨by decide, by decide⟩ (by decide +kernel) ⟨by decide, by decide⟩ ⟨by decide, by decide⟩ (d_X7_ordersTurnedBy_12) (fun x hx => (hno x hx).elim) ⟨by decide, by decide⟩ ⟨by decide, by decide⟩ (s_zne C0 (d_X7_ordersTurnedBy_15) (by decide) hgz hgz (fun _ _ _ h => h) (s_aln C0 (d_X7_ordersTurnedBy_18) hgz (s_iln C0 (d_X7_ordersTurnedBy_19) hgz (s_callV C0 hE (c_X7_isWinning l) wg511 wg508 wg510 ws8 wg10 ⟨by decide, by decide⟩ (by decide +kernel) (c0 := 7) rfl ⟨by decide, by decide⟩ ⟨by decide, by decide⟩ (d_X7_ordersTurnedBy_20) (fun x hx => (hno x hx).elim) ⟨by decide, by decide⟩ ⟨by decide, by decide⟩ (s_zne C0 (d_X7_ordersTurnedBy_23) (by decide) hgz hgz (fun _ _ _ h => h) (s_aln C0 (d_X7_ordersTurnedBy_26) hgz (s_iln C0 (d_X7_ordersTurnedBy_27) hgz (s_ic C0 (d_X7_ordersTurnedBy_28) hgz (s_iln C0 (d_X7_ordersTurnedBy_29) hgz (s_shl C0 (d_X7_ordersTurnedBy_30) hgz (s_or C0 (d_X7_ordersTurnedBy_31) hgz (s_callV C0 hE (c_X7_isWinning l) wg511 wg508 wg510 ws8 wg10 ⟨by decide, by decide⟩ (by decide +kernel) (c0 := 7) rfl ⟨by decide, by decide⟩ ⟨by decide, by decide⟩ (d_X7_ordersTurnedBy_32) (fun x hx => (hno x hx).elim) ⟨by decide, by decide⟩ ⟨by decide, by decide⟩ (s_zeq C0 (d_X7_ordersTurnedBy_35) (by decide) hgz hgz (fun _ _ _ h => h) (s_iln C0 (d_X7_ordersTurnedBy_38) hgz (s_iln C0 (d_X7_ordersTurnedBy_39) hgz (s_callS C0 hE (c_J6_bitCount_0f7a4 l) wg481 wg1086 wg480 wg24 ⟨by decide, by decide⟩ (by decide +kernel) ⟨by decide, by decide⟩ ⟨by decide, by decide⟩ (d_X7_ordersTurnedBy_40) (fun x hx => (hno x hx).elim) ⟨by decide, by decide⟩ ⟨by decide, by decide⟩ (s_callS C0 hE (c_X7_ordersWithAhead l) wg1089 wg1087 wg1088 wg10 ⟨by decide, by decide⟩ (by decide +kernel) ⟨by decide, by decide⟩ ⟨by decide, by decide⟩ (d_X7_ordersTurnedBy_43) (fun x hx => (hno x hx).elim) ⟨by decide, by decide⟩ ⟨by decide, by decide⟩ (s_add C0 (d_X7_ordersTurnedBy_46) hgz (s_isn C0 (d_X7_ordersTurnedBy_47) hgz (fun _ _ _ h => h)))))))))))) (okn rfl))))))))))))) (okn rfl) rfl),
  s_inc C0 (d_X7_ordersTurnedBy_48) hgz (s_goto C0 (tgt := 4) (d_X7_ordersTurnedBy_51) (by decide) hgz (fun _ _ _ h => h)),
  s_iln C0 (d_X7_ordersTurnedBy_54) hgz (s_ri C0 hr (d_X7_ordersTurnedBy_55) ⟨by decide, by decide⟩)⟩
theorem c_X7_ordersTurnedBy (l : Launch) : Ctr l yX7_ordersTurnedBy cX7_ordersTurnedBy 4 (some .int) 12 244 0 (fun sx => (nf G_X7_ordersTurnedBy)) := ctr_of (by decide) gz gz ⟨rfl, rfl⟩ (fun p e s m args below meth c D ca ad sx sy A Q as M C0 hE hr hno hF => P_X7_ordersTurnedBy (L_X7_ordersTurnedBy C0 hE hr hno) hF)
theorem d_X6_ownPounds_0 : decode cX6_ownPounds 0 = .ok (.iconst 0, 1) := by decide +kernel
theorem d_X6_ownPounds_1 : decode cX6_ownPounds 1 = .ok (.istore_n 2, 1) := by decide +kernel
theorem d_X6_ownPounds_2 : decode cX6_ownPounds 2 = .ok (.iconst 0, 1) := by decide +kernel
theorem d_X6_ownPounds_3 : decode cX6_ownPounds 3 = .ok (.istore_n 3, 1) := by decide +kernel
theorem d_X6_ownPounds_4 : decode cX6_ownPounds 4 = .ok (.iload_n 3, 1) := by decide +kernel
theorem d_X6_ownPounds_5 : decode cX6_ownPounds 5 = .ok (.aload_n 0, 1) := by decide +kernel
theorem d_X6_ownPounds_6 : decode cX6_ownPounds 6 = .ok (.getfield 46, 3) := by decide +kernel
theorem d_X6_ownPounds_9 : decode cX6_ownPounds 9 = .ok (.if_icmp .ge 28, 3) := by decide +kernel
theorem d_X6_ownPounds_12 : decode cX6_ownPounds 12 = .ok (.aload_n 0, 1) := by decide +kernel
theorem d_X6_ownPounds_13 : decode cX6_ownPounds 13 = .ok (.getfield 18, 3) := by decide +kernel
theorem d_X6_ownPounds_16 : decode cX6_ownPounds 16 = .ok (.iload_n 3, 1) := by decide +kernel
theorem d_X6_ownPounds_17 : decode cX6_ownPounds 17 = .ok (.iaload, 1) := by decide +kernel
theorem d_X6_ownPounds_18 : decode cX6_ownPounds 18 = .ok (.iload_n 1, 1) := by decide +kernel
theorem d_X6_ownPounds_19 : decode cX6_ownPounds 19 = .ok (.if_icmp .ne 12, 3) := by decide +kernel
theorem d_X6_ownPounds_22 : decode cX6_ownPounds 22 = .ok (.iload_n 2, 1) := by decide +kernel
theorem d_X6_ownPounds_23 : decode cX6_ownPounds 23 = .ok (.aload_n 0, 1) := by decide +kernel
theorem d_X6_ownPounds_24 : decode cX6_ownPounds 24 = .ok (.getfield 21, 3) := by decide +kernel
theorem d_X6_ownPounds_27 : decode cX6_ownPounds 27 = .ok (.iload_n 3, 1) := by decide +kernel
theorem d_X6_ownPounds_28 : decode cX6_ownPounds 28 = .ok (.iaload, 1) := by decide +kernel
theorem d_X6_ownPounds_29 : decode cX6_ownPounds 29 = .ok (.iadd, 1) := by decide +kernel
theorem d_X6_ownPounds_30 : decode cX6_ownPounds 30 = .ok (.istore_n 2, 1) := by decide +kernel
theorem d_X6_ownPounds_31 : decode cX6_ownPounds 31 = .ok (.iinc 3 1, 3) := by decide +kernel
theorem d_X6_ownPounds_34 : decode cX6_ownPounds 34 = .ok (.goto (-30), 3) := by decide +kernel
theorem d_X6_ownPounds_37 : decode cX6_ownPounds 37 = .ok (.iload_n 2, 1) := by decide +kernel
theorem d_X6_ownPounds_38 : decode cX6_ownPounds 38 = .ok (.ireturn, 1) := by decide +kernel
set_option maxRecDepth 100000 in
theorem L_X6_ownPounds {p : Program} {l : Launch} {e : Env} {s : State} {m : MethodId} {args : Array Value} {below : List Frame} {meth : Method} {c : Code} {D : va_G} {ca : Nat → ClassId} {ad sx sy : Nat → Nat} {A : Nat → Prop} {Q : QT} (C0 : CX p s m args meth c cX6_ownPounds 4 yX6_ownPounds.cls D ca ad A) (hE : EX sx sy A s s.heap) (hr : meth.sig.returnType = (some .int)) (hno : ∀ x ∈ c.exceptionTable.toList, False) : R_X6_ownPounds (JW p l e { frames := 10, cells := 0, slots := 6 * 0, locals := 200 } s m args below meth c 4 D ca ad A (vx_MQ below (Qn D ca ad A Q) (Qx D ca ad A Q) args s 0 (6 * 0) A) gz gz true) Q := ⟨s_ic C0 (d_X6_ownPounds_0) hgz (s_isn C0 (d_X6_ownPounds_1) hgz (s_ic C0 (d_X6_ownPounds_2) hgz (s_isn C0 (d_X6_ownPounds_3) hgz (fun _ _ _ h => h)) (okn rfl))) (okn rfl),
  s_iln C0 (d_X6_ownPounds_4) hgz (s_aln C0 (d_X6_ownPounds_5) hgz (s_gi C0 (j := 3) (c0 := 6) rfl gX6 (by decide) rfl (by decide) wg84 (d_X6_ownPounds_6) hgz (s_cge C0 (d_X6_ownPounds_9) (by decide) hgz hgz (fun _ _ _ h => h) (s_aln C0 (d_X6_ownPounds_12) hgz (s_gr C0 (j := 4) (c0 := 6) rfl gX6 (by decide) rfl rfl wg92 (d_X6_ownPounds_13) hgz (s_iln C0 (d_X6_ownPounds_16) hgz (s_ia C0 (d_X6_ownPounds_17) hgz (s_iln C0 (d_X6_ownPounds_18) hgz (s_cne C0 (d_X6_ownPounds_19) (by decide) hgz hgz (fun _ _ _ h => h) (s_iln C0 (d_X6_ownPounds_22) hgz (s_aln C0 (d_X6_ownPounds_23) hgz (s_gr C0 (j := 5) (c0 := 6) rfl gX6 (by decide) rfl rfl wg98 (d_X6_ownPounds_24) hgz (s_iln C0 (d_X6_ownPounds_27) hgz (s_ia C0 (d_X6_ownPounds_28) hgz (s_add C0 (d_X6_ownPounds_29) hgz (s_isn C0 (d_X6_ownPounds_30) hgz (fun _ _ _ h => h))))))))))))))))),
  s_inc C0 (d_X6_ownPounds_31) hgz (s_goto C0 (tgt := 4) (d_X6_ownPounds_34) (by decide) hgz (fun _ _ _ h => h)),
  s_iln C0 (d_X6_ownPounds_37) hgz (s_ri C0 hr (d_X6_ownPounds_38) ⟨by decide, by decide⟩)⟩
theorem c_X6_ownPounds (l : Launch) : Ctr l yX6_ownPounds cX6_ownPounds 4 (some .int) 10 200 0 (fun sx => (nf G_X6_ownPounds)) := ctr_of (by decide) gz gz ⟨rfl, rfl⟩ (fun p e s m args below meth c D ca ad sx sy A Q as M C0 hE hr hno hF => P_X6_ownPounds (L_X6_ownPounds C0 hE hr hno) hF)
theorem d_X6_allPounds_0 : decode cX6_allPounds 0 = .ok (.iconst 0, 1) := by decide +kernel
theorem d_X6_allPounds_1 : decode cX6_allPounds 1 = .ok (.istore_n 1, 1) := by decide +kernel
theorem d_X6_allPounds_2 : decode cX6_allPounds 2 = .ok (.iconst 0, 1) := by decide +kernel
theorem d_X6_allPounds_3 : decode cX6_allPounds 3 = .ok (.istore_n 2, 1) := by decide +kernel
theorem d_X6_allPounds_4 : decode cX6_allPounds 4 = .ok (.iload_n 2, 1) := by decide +kernel
theorem d_X6_allPounds_5 : decode cX6_allPounds 5 = .ok (.aload_n 0, 1) := by decide +kernel
theorem d_X6_allPounds_6 : decode cX6_allPounds 6 = .ok (.getfield 46, 3) := by decide +kernel
theorem d_X6_allPounds_9 : decode cX6_allPounds 9 = .ok (.if_icmp .ge 18, 3) := by decide +kernel
theorem d_X6_allPounds_12 : decode cX6_allPounds 12 = .ok (.iload_n 1, 1) := by decide +kernel
theorem d_X6_allPounds_13 : decode cX6_allPounds 13 = .ok (.aload_n 0, 1) := by decide +kernel
theorem d_X6_allPounds_14 : decode cX6_allPounds 14 = .ok (.getfield 21, 3) := by decide +kernel
theorem d_X6_allPounds_17 : decode cX6_allPounds 17 = .ok (.iload_n 2, 1) := by decide +kernel
theorem d_X6_allPounds_18 : decode cX6_allPounds 18 = .ok (.iaload, 1) := by decide +kernel
theorem d_X6_allPounds_19 : decode cX6_allPounds 19 = .ok (.iadd, 1) := by decide +kernel
theorem d_X6_allPounds_20 : decode cX6_allPounds 20 = .ok (.istore_n 1, 1) := by decide +kernel
theorem d_X6_allPounds_21 : decode cX6_allPounds 21 = .ok (.iinc 2 1, 3) := by decide +kernel
theorem d_X6_allPounds_24 : decode cX6_allPounds 24 = .ok (.goto (-20), 3) := by decide +kernel
theorem d_X6_allPounds_27 : decode cX6_allPounds 27 = .ok (.iload_n 1, 1) := by decide +kernel
theorem d_X6_allPounds_28 : decode cX6_allPounds 28 = .ok (.ireturn, 1) := by decide +kernel
set_option maxRecDepth 100000 in
theorem L_X6_allPounds {p : Program} {l : Launch} {e : Env} {s : State} {m : MethodId} {args : Array Value} {below : List Frame} {meth : Method} {c : Code} {D : va_G} {ca : Nat → ClassId} {ad sx sy : Nat → Nat} {A : Nat → Prop} {Q : QT} (C0 : CX p s m args meth c cX6_allPounds 3 yX6_allPounds.cls D ca ad A) (hE : EX sx sy A s s.heap) (hr : meth.sig.returnType = (some .int)) (hno : ∀ x ∈ c.exceptionTable.toList, False) : R_X6_allPounds (JW p l e { frames := 10, cells := 0, slots := 6 * 0, locals := 200 } s m args below meth c 3 D ca ad A (vx_MQ below (Qn D ca ad A Q) (Qx D ca ad A Q) args s 0 (6 * 0) A) gz gz true) Q := ⟨s_ic C0 (d_X6_allPounds_0) hgz (s_isn C0 (d_X6_allPounds_1) hgz (s_ic C0 (d_X6_allPounds_2) hgz (s_isn C0 (d_X6_allPounds_3) hgz (fun _ _ _ h => h)) (okn rfl))) (okn rfl),
  s_iln C0 (d_X6_allPounds_4) hgz (s_aln C0 (d_X6_allPounds_5) hgz (s_gi C0 (j := 3) (c0 := 6) rfl gX6 (by decide) rfl (by decide) wg84 (d_X6_allPounds_6) hgz (s_cge C0 (d_X6_allPounds_9) (by decide) hgz hgz (fun _ _ _ h => h) (s_iln C0 (d_X6_allPounds_12) hgz (s_aln C0 (d_X6_allPounds_13) hgz (s_gr C0 (j := 5) (c0 := 6) rfl gX6 (by decide) rfl rfl wg98 (d_X6_allPounds_14) hgz (s_iln C0 (d_X6_allPounds_17) hgz (s_ia C0 (d_X6_allPounds_18) hgz (s_add C0 (d_X6_allPounds_19) hgz (s_isn C0 (d_X6_allPounds_20) hgz (s_inc C0 (d_X6_allPounds_21) hgz (s_goto C0 (tgt := 4) (d_X6_allPounds_24) (by decide) hgz (fun _ _ _ h => h))))))))))))),
  s_iln C0 (d_X6_allPounds_27) hgz (s_ri C0 hr (d_X6_allPounds_28) ⟨by decide, by decide⟩)⟩
theorem c_X6_allPounds (l : Launch) : Ctr l yX6_allPounds cX6_allPounds 3 (some .int) 10 200 0 (fun sx => (nf G_X6_allPounds)) := ctr_of (by decide) gz gz ⟨rfl, rfl⟩ (fun p e s m args below meth c D ca ad sx sy A Q as M C0 hE hr hno hF => P_X6_allPounds (L_X6_allPounds C0 hE hr hno) hF)
theorem wg471 : Cond.code ⟨"WeighedHall$Plan", "allPounds", "()I"⟩ prog_8_method_17_code 3 (Option.some .int) ∈ GT := gt_mem 591 (by decide +kernel) rfl
theorem wn468 : Cond.methodLinkNest "WeighedHall$Scales" 21 ⟨"WeighedHall$Plan", "allPounds", "()I"⟩ "WeighedHall" ∈ NT := nt_mem 468 (by decide +kernel) rfl
theorem wg470 : Cond.instanceMethod ⟨"WeighedHall$Plan", "allPounds", "()I"⟩ ∈ GT := gt_mem 590 (by decide +kernel) rfl
theorem ws2 : Cond.selects "WeighedHall$Plan" ⟨"WeighedHall$Plan", "allPounds", "()I"⟩ ⟨"WeighedHall$Plan", "allPounds", "()I"⟩ ∈ GT := gt_mem 2 (by decide +kernel) rfl
theorem wg475 : Cond.code ⟨"WeighedHall$Plan", "ownPounds", "(I)I"⟩ prog_8_method_16_code 4 (Option.some .int) ∈ GT := gt_mem 595 (by decide +kernel) rfl
theorem wn472 : Cond.methodLinkNest "WeighedHall$Scales" 35 ⟨"WeighedHall$Plan", "ownPounds", "(I)I"⟩ "WeighedHall" ∈ NT := nt_mem 472 (by decide +kernel) rfl
theorem wg474 : Cond.instanceMethod ⟨"WeighedHall$Plan", "ownPounds", "(I)I"⟩ ∈ GT := gt_mem 594 (by decide +kernel) rfl
theorem ws3 : Cond.selects "WeighedHall$Plan" ⟨"WeighedHall$Plan", "ownPounds", "(I)I"⟩ ⟨"WeighedHall$Plan", "ownPounds", "(I)I"⟩ ∈ GT := gt_mem 3 (by decide +kernel) rfl
theorem wn78 : Cond.fieldLinkNest "WeighedHall$Scales" 50 "WeighedHall$Plan" "party" "[I" "WeighedHall" ∈ NT := nt_mem 78 (by decide +kernel) rfl
theorem wn72 : Cond.fieldLinkNest "WeighedHall$Scales" 31 "WeighedHall$Plan" "persons" "I" "WeighedHall" ∈ NT := nt_mem 72 (by decide +kernel) rfl
theorem d_X7_weighParties_0 : decode cX7_weighParties 0 = .ok (.aload_n 0, 1) := by decide +kernel
theorem d_X7_weighParties_1 : decode cX7_weighParties 1 = .ok (.aload_n 1, 1) := by decide +kernel
theorem d_X7_weighParties_2 : decode cX7_weighParties 2 = .ok (.invokevirtual 21, 3) := by decide +kernel
theorem d_X7_weighParties_5 : decode cX7_weighParties 5 = .ok (.putfield 27, 3) := by decide +kernel
theorem d_X7_weighParties_8 : decode cX7_weighParties 8 = .ok (.iconst 0, 1) := by decide +kernel
theorem d_X7_weighParties_9 : decode cX7_weighParties 9 = .ok (.istore_n 2, 1) := by decide +kernel
theorem d_X7_weighParties_10 : decode cX7_weighParties 10 = .ok (.iload_n 2, 1) := by decide +kernel
theorem d_X7_weighParties_11 : decode cX7_weighParties 11 = .ok (.iconst 4, 1) := by decide +kernel
theorem d_X7_weighParties_12 : decode cX7_weighParties 12 = .ok (.if_icmp .ge 16, 3) := by decide +kernel
theorem d_X7_weighParties_15 : decode cX7_weighParties 15 = .ok (.aload_n 0, 1) := by decide +kernel
theorem d_X7_weighParties_16 : decode cX7_weighParties 16 = .ok (.getfield 18, 3) := by decide +kernel
theorem d_X7_weighParties_19 : decode cX7_weighParties 19 = .ok (.iload_n 2, 1) := by decide +kernel
theorem d_X7_weighParties_20 : decode cX7_weighParties 20 = .ok (.iconst 0, 1) := by decide +kernel
theorem d_X7_weighParties_21 : decode cX7_weighParties 21 = .ok (.iastore, 1) := by decide +kernel
theorem d_X7_weighParties_22 : decode cX7_weighParties 22 = .ok (.iinc 2 1, 3) := by decide +kernel
theorem d_X7_weighParties_25 : decode cX7_weighParties 25 = .ok (.goto (-15), 3) := by decide +kernel
theorem d_X7_weighParties_28 : decode cX7_weighParties 28 = .ok (.iconst 0, 1) := by decide +kernel
theorem d_X7_weighParties_29 : decode cX7_weighParties 29 = .ok (.istore_n 2, 1) := by decide +kernel
theorem d_X7_weighParties_30 : decode cX7_weighParties 30 = .ok (.iload_n 2, 1) := by decide +kernel
theorem d_X7_weighParties_31 : decode cX7_weighParties 31 = .ok (.aload_n 1, 1) := by decide +kernel
theorem d_X7_weighParties_32 : decode cX7_weighParties 32 = .ok (.getfield 31, 3) := by decide +kernel
theorem d_X7_weighParties_35 : decode cX7_weighParties 35 = .ok (.if_icmp .ge 39, 3) := by decide +kernel
theorem d_X7_weighParties_38 : decode cX7_weighParties 38 = .ok (.aload_n 1, 1) := by decide +kernel
theorem d_X7_weighParties_39 : decode cX7_weighParties 39 = .ok (.getfield 50, 3) := by decide +kernel
theorem d_X7_weighParties_42 : decode cX7_weighParties 42 = .ok (.iload_n 2, 1) := by decide +kernel
theorem d_X7_weighParties_43 : decode cX7_weighParties 43 = .ok (.iaload, 1) := by decide +kernel
theorem d_X7_weighParties_44 : decode cX7_weighParties 44 = .ok (.istore_n 3, 1) := by decide +kernel
theorem d_X7_weighParties_45 : decode cX7_weighParties 45 = .ok (.iload_n 3, 1) := by decide +kernel
theorem d_X7_weighParties_46 : decode cX7_weighParties 46 = .ok (.ifCond .lt 22, 3) := by decide +kernel
theorem d_X7_weighParties_49 : decode cX7_weighParties 49 = .ok (.iload_n 3, 1) := by decide +kernel
theorem d_X7_weighParties_50 : decode cX7_weighParties 50 = .ok (.iconst 4, 1) := by decide +kernel
theorem d_X7_weighParties_51 : decode cX7_weighParties 51 = .ok (.if_icmp .ge 17, 3) := by decide +kernel
theorem d_X7_weighParties_54 : decode cX7_weighParties 54 = .ok (.aload_n 0, 1) := by decide +kernel
theorem d_X7_weighParties_55 : decode cX7_weighParties 55 = .ok (.getfield 18, 3) := by decide +kernel
theorem d_X7_weighParties_58 : decode cX7_weighParties 58 = .ok (.iload_n 3, 1) := by decide +kernel
theorem d_X7_weighParties_59 : decode cX7_weighParties 59 = .ok (.dup2, 1) := by decide +kernel
theorem d_X7_weighParties_60 : decode cX7_weighParties 60 = .ok (.iaload, 1) := by decide +kernel
theorem d_X7_weighParties_61 : decode cX7_weighParties 61 = .ok (.aload_n 1, 1) := by decide +kernel
theorem d_X7_weighParties_62 : decode cX7_weighParties 62 = .ok (.iload_n 2, 1) := by decide +kernel
theorem d_X7_weighParties_63 : decode cX7_weighParties 63 = .ok (.invokevirtual 35, 3) := by decide +kernel
theorem d_X7_weighParties_66 : decode cX7_weighParties 66 = .ok (.iadd, 1) := by decide +kernel
theorem d_X7_weighParties_67 : decode cX7_weighParties 67 = .ok (.iastore, 1) := by decide +kernel
theorem d_X7_weighParties_68 : decode cX7_weighParties 68 = .ok (.iinc 2 1, 3) := by decide +kernel
theorem d_X7_weighParties_71 : decode cX7_weighParties 71 = .ok (.goto (-41), 3) := by decide +kernel
theorem d_X7_weighParties_74 : decode cX7_weighParties 74 = .ok (.return_, 1) := by decide +kernel
set_option maxRecDepth 100000 in
theorem L_X7_weighParties {p : Program} {l : Launch} {e : Env} {s : State} {m : MethodId} {args : Array Value} {below : List Frame} {meth : Method} {c : Code} {D : va_G} {ca : Nat → ClassId} {ad sx sy : Nat → Nat} {A : Nat → Prop} {Q : QT} (C0 : CX p s m args meth c cX7_weighParties 4 yX7_weighParties.cls D ca ad A) (hE : EX sx sy A s s.heap) (hr : meth.sig.returnType = none) (hno : ∀ x ∈ c.exceptionTable.toList, False) : R_X7_weighParties (JW p l e { frames := 11, cells := 0, slots := 6 * 0, locals := 223 } s m args below meth c 4 D ca ad A (vx_MQ below (Qn D ca ad A Q) (Qx D ca ad A Q) args s 0 (6 * 0) A) gz gz true) Q := ⟨s_aln C0 (d_X7_weighParties_0) hgz (s_aln C0 (d_X7_weighParties_1) hgz (s_callVN C0 hE (c_X6_allPounds l) wg471 wn468 wg470 ws2 wg3 ⟨by decide, by decide⟩ (by decide +kernel) (c0 := 6) rfl ⟨by decide, by decide⟩ ⟨by decide, by decide⟩ (d_X7_weighParties_2) (fun x hx => (hno x hx).elim) ⟨by decide, by decide⟩ ⟨by decide, by decide⟩ (s_pi C0 (j := 0) (c0 := 7) rfl gX7 tyX7_ok nmX7 (by decide) rfl (by decide) rfl rfl wg344 (d_X7_weighParties_5) hgz (s_ic C0 (d_X7_weighParties_8) hgz (s_isn C0 (d_X7_weighParties_9) hgz (fun _ _ _ h => h)) (okn rfl))))),
  s_iln C0 (d_X7_weighParties_10) hgz (s_ic C0 (d_X7_weighParties_11) hgz (s_cge C0 (d_X7_weighParties_12) (by decide) hgz hgz (fun _ _ _ h => h) (s_aln C0 (d_X7_weighParties_15) hgz (s_gr C0 (j := 4) (c0 := 7) rfl gX7 (by decide) rfl rfl wg348 (d_X7_weighParties_16) hgz (s_iln C0 (d_X7_weighParties_19) hgz (s_ic C0 (d_X7_weighParties_20) hgz (s_iax C0 (d_X7_weighParties_21) hgz (s_inc C0 (d_X7_weighParties_22) hgz (s_goto C0 (tgt := 10) (d_X7_weighParties_25) (by decide) hgz (fun _ _ _ h => h)))) (okn rfl)))))) (okn rfl)),
  s_ic C0 (d_X7_weighParties_28) hgz (s_isn C0 (d_X7_weighParties_29) hgz (fun _ _ _ h => h)) (okn rfl),
  s_iln C0 (d_X7_weighParties_30) hgz (s_aln C0 (d_X7_weighParties_31) hgz (s_giN C0 (j := 0) (c0 := 6) rfl gX6 (by decide) rfl (by decide) wn72 (d_X7_weighParties_32) hgz (s_cge C0 (d_X7_weighParties_35) (by decide) hgz hgz (fun _ _ _ h => h) (s_aln C0 (d_X7_weighParties_38) hgz (s_grN C0 (j := 1) (c0 := 6) rfl gX6 (by decide) rfl rfl wn78 (d_X7_weighParties_39) hgz (s_iln C0 (d_X7_weighParties_42) hgz (s_ia C0 (d_X7_weighParties_43) hgz (s_isn C0 (d_X7_weighParties_44) hgz (s_iln C0 (d_X7_weighParties_45) hgz (s_zlt C0 (d_X7_weighParties_46) (by decide) hgz hgz (fun _ _ _ h => h) (s_iln C0 (d_X7_weighParties_49) hgz (s_ic C0 (d_X7_weighParties_50) hgz (s_cge C0 (d_X7_weighParties_51) (by decide) hgz hgz (fun _ _ _ h => h) (s_aln C0 (d_X7_weighParties_54) hgz (s_gr C0 (j := 4) (c0 := 7) rfl gX7 (by decide) rfl rfl wg348 (d_X7_weighParties_55) hgz (s_iln C0 (d_X7_weighParties_58) hgz (s_dup2 C0 (d_X7_weighParties_59) hgz (s_ia C0 (d_X7_weighParties_60) hgz (s_aln C0 (d_X7_weighParties_61) hgz (s_iln C0 (d_X7_weighParties_62) hgz (s_callVN C0 hE (c_X6_ownPounds l) wg475 wn472 wg474 ws3 wg3 ⟨by decide, by decide⟩ (by decide +kernel) (c0 := 6) rfl ⟨by decide, by decide⟩ ⟨by decide, by decide⟩ (d_X7_weighParties_63) (fun x hx => (hno x hx).elim) ⟨by decide, by decide⟩ ⟨by decide, by decide⟩ (s_add C0 (d_X7_weighParties_66) hgz (s_iax C0 (d_X7_weighParties_67) hgz (fun _ _ _ h => h)))))))))))) (okn rfl))))))))))))),
  s_inc C0 (d_X7_weighParties_68) hgz (s_goto C0 (tgt := 30) (d_X7_weighParties_71) (by decide) hgz (fun _ _ _ h => h)),
  s_rv C0 hr (d_X7_weighParties_74) ⟨by decide, by decide⟩⟩
theorem c_X7_weighParties (l : Launch) : Ctr l yX7_weighParties cX7_weighParties 4 none 11 223 0 (fun sx => (nf G_X7_weighParties)) := ctr_of (by decide) gz gz ⟨rfl, rfl⟩ (fun p e s m args below meth c D ca ad sx sy A Q as M C0 hE hr hno hF => P_X7_weighParties (L_X7_weighParties C0 hE hr hno) hF)
theorem wg1092 : Cond.code ⟨"WeighedHall", "greatestShared", "(II)I"⟩ prog_1_method_43_code 6 (Option.some .int) ∈ GT := gt_mem 1212 (by decide +kernel) rfl
theorem wg1090 : Cond.methodLink "WeighedHall" 275 ⟨"WeighedHall", "greatestShared", "(II)I"⟩ ∈ GT := gt_mem 1210 (by decide +kernel) rfl
theorem wg1091 : Cond.static ⟨"WeighedHall", "greatestShared", "(II)I"⟩ ∈ GT := gt_mem 1211 (by decide +kernel) rfl
theorem wg1085 : Cond.code ⟨"WeighedHall$Scales", "ordersTurnedBy", "(I)I"⟩ prog_9_method_8_code 4 (Option.some .int) ∈ GT := gt_mem 1205 (by decide +kernel) rfl
theorem wn1082 : Cond.methodLinkNest "WeighedHall" 272 ⟨"WeighedHall$Scales", "ordersTurnedBy", "(I)I"⟩ "WeighedHall" ∈ NT := nt_mem 1082 (by decide +kernel) rfl
theorem wg1084 : Cond.instanceMethod ⟨"WeighedHall$Scales", "ordersTurnedBy", "(I)I"⟩ ∈ GT := gt_mem 1204 (by decide +kernel) rfl
theorem ws68 : Cond.selects "WeighedHall$Scales" ⟨"WeighedHall$Scales", "ordersTurnedBy", "(I)I"⟩ ⟨"WeighedHall$Scales", "ordersTurnedBy", "(I)I"⟩ ∈ GT := gt_mem 68 (by decide +kernel) rfl
theorem wg407 : Cond.fieldLink "WeighedHall" 85 "WeighedHall" "scales" "LWeighedHall$Scales;" ∈ GT := gt_mem 527 (by decide +kernel) rfl
theorem wg503 : Cond.code ⟨"WeighedHall$Scales", "weighParties", "(LWeighedHall$Plan;)V"⟩ prog_9_method_4_code 4 (Option.none : Option FieldType) ∈ GT := gt_mem 623 (by decide +kernel) rfl
theorem wn500 : Cond.methodLinkNest "WeighedHall" 266 ⟨"WeighedHall$Scales", "weighParties", "(LWeighedHall$Plan;)V"⟩ "WeighedHall" ∈ NT := nt_mem 500 (by decide +kernel) rfl
theorem wg502 : Cond.instanceMethod ⟨"WeighedHall$Scales", "weighParties", "(LWeighedHall$Plan;)V"⟩ ∈ GT := gt_mem 622 (by decide +kernel) rfl
theorem ws6 : Cond.selects "WeighedHall$Scales" ⟨"WeighedHall$Scales", "weighParties", "(LWeighedHall$Plan;)V"⟩ ⟨"WeighedHall$Scales", "weighParties", "(LWeighedHall$Plan;)V"⟩ ∈ GT := gt_mem 6 (by decide +kernel) rfl
theorem wg1093 : Cond.methodLink "WeighedHall" 278 ⟨"WeighedHall", "cut", "(II)I"⟩ ∈ GT := gt_mem 1213 (by decide +kernel) rfl
theorem d_X10_owed_0 : decode cX10_owed 0 = .ok (.aload_n 0, 1) := by decide +kernel
theorem d_X10_owed_1 : decode cX10_owed 1 = .ok (.iload_n 1, 1) := by decide +kernel
theorem d_X10_owed_2 : decode cX10_owed 2 = .ok (.ifCond .lt 32, 3) := by decide +kernel
theorem d_X10_owed_5 : decode cX10_owed 5 = .ok (.iload_n 1, 1) := by decide +kernel
theorem d_X10_owed_6 : decode cX10_owed 6 = .ok (.iconst 4, 1) := by decide +kernel
theorem d_X10_owed_7 : decode cX10_owed 7 = .ok (.if_icmp .ge 27, 3) := by decide +kernel
theorem d_X10_owed_10 : decode cX10_owed 10 = .ok (.iload_n 2, 1) := by decide +kernel
theorem d_X10_owed_11 : decode cX10_owed 11 = .ok (.ifCond .lt 23, 3) := by decide +kernel
theorem d_X10_owed_14 : decode cX10_owed 14 = .ok (.iload_n 2, 1) := by decide +kernel
theorem d_X10_owed_15 : decode cX10_owed 15 = .ok (.sipush 9999, 3) := by decide +kernel
theorem d_X10_owed_18 : decode cX10_owed 18 = .ok (.if_icmp .gt 16, 3) := by decide +kernel
theorem d_X10_owed_21 : decode cX10_owed 21 = .ok (.iload_n 3, 1) := by decide +kernel
theorem d_X10_owed_22 : decode cX10_owed 22 = .ok (.ifCond .eq 8, 3) := by decide +kernel
theorem d_X10_owed_25 : decode cX10_owed 25 = .ok (.iload_n 3, 1) := by decide +kernel
theorem d_X10_owed_26 : decode cX10_owed 26 = .ok (.iconst 1, 1) := by decide +kernel
theorem d_X10_owed_27 : decode cX10_owed 27 = .ok (.if_icmp .ne 7, 3) := by decide +kernel
theorem d_X10_owed_30 : decode cX10_owed 30 = .ok (.iconst 1, 1) := by decide +kernel
theorem d_X10_owed_31 : decode cX10_owed 31 = .ok (.goto 4, 3) := by decide +kernel
theorem d_X10_owed_34 : decode cX10_owed 34 = .ok (.iconst 0, 1) := by decide +kernel
theorem d_X10_owed_35 : decode cX10_owed 35 = .ok (.invokevirtual 104, 3) := by decide +kernel
theorem d_X10_owed_38 : decode cX10_owed 38 = .ok (.aload_n 0, 1) := by decide +kernel
theorem d_X10_owed_39 : decode cX10_owed 39 = .ok (.getfield 85, 3) := by decide +kernel
theorem d_X10_owed_42 : decode cX10_owed 42 = .ok (.aload_n 0, 1) := by decide +kernel
theorem d_X10_owed_43 : decode cX10_owed 43 = .ok (.getfield 19, 3) := by decide +kernel
theorem d_X10_owed_46 : decode cX10_owed 46 = .ok (.invokevirtual 266, 3) := by decide +kernel
theorem d_X10_owed_49 : decode cX10_owed 49 = .ok (.iload_n 2, 1) := by decide +kernel
theorem d_X10_owed_50 : decode cX10_owed 50 = .ok (.aload_n 0, 1) := by decide +kernel
theorem d_X10_owed_51 : decode cX10_owed 51 = .ok (.getfield 85, 3) := by decide +kernel
theorem d_X10_owed_54 : decode cX10_owed 54 = .ok (.iload_n 1, 1) := by decide +kernel
theorem d_X10_owed_55 : decode cX10_owed 55 = .ok (.invokevirtual 272, 3) := by decide +kernel
theorem d_X10_owed_58 : decode cX10_owed 58 = .ok (.imul, 1) := by decide +kernel
theorem d_X10_owed_59 : decode cX10_owed 59 = .ok (.istore 4, 2) := by decide +kernel
theorem d_X10_owed_61 : decode cX10_owed 61 = .ok (.iload 4, 2) := by decide +kernel
theorem d_X10_owed_63 : decode cX10_owed 63 = .ok (.bipush 24, 2) := by decide +kernel
theorem d_X10_owed_65 : decode cX10_owed 65 = .ok (.invokestatic 275, 3) := by decide +kernel
theorem d_X10_owed_68 : decode cX10_owed 68 = .ok (.istore 5, 2) := by decide +kernel
theorem d_X10_owed_70 : decode cX10_owed 70 = .ok (.iload_n 3, 1) := by decide +kernel
theorem d_X10_owed_71 : decode cX10_owed 71 = .ok (.ifCond .ne 8, 3) := by decide +kernel
theorem d_X10_owed_74 : decode cX10_owed 74 = .ok (.iload 4, 2) := by decide +kernel
theorem d_X10_owed_76 : decode cX10_owed 76 = .ok (.goto 5, 3) := by decide +kernel
theorem d_X10_owed_79 : decode cX10_owed 79 = .ok (.bipush 24, 2) := by decide +kernel
theorem d_X10_owed_81 : decode cX10_owed 81 = .ok (.iload 5, 2) := by decide +kernel
theorem d_X10_owed_83 : decode cX10_owed 83 = .ok (.invokestatic 278, 3) := by decide +kernel
theorem d_X10_owed_86 : decode cX10_owed 86 = .ok (.ireturn, 1) := by decide +kernel
set_option maxRecDepth 100000 in
theorem L_X10_owed {p : Program} {l : Launch} {e : Env} {s : State} {m : MethodId} {args : Array Value} {below : List Frame} {meth : Method} {c : Code} {D : va_G} {ca : Nat → ClassId} {ad sx sy : Nat → Nat} {A : Nat → Prop} {Q : QT} (hl0 : l.stackTraces = false) (C0 : CX p s m args meth c cX10_owed 6 yX10_owed.cls D ca ad A) (hE : EX sx sy A s s.heap) (hr : meth.sig.returnType = (some .int)) (hno : ∀ x ∈ c.exceptionTable.toList, False) : R_X10_owed (JW p l e { frames := 13, cells := 1, slots := 6 * 1, locals := 267 } s m args below meth c 6 D ca ad A (vx_MQ below (Qn D ca ad A Q) (Qx D ca ad A Q) args s 1 (6 * 1) A) (gl [(35, 1)]) (gl6 [(35, 1)]) true) Q := ⟨s_aln C0 (d_X10_owed_0) (hgq rfl) (s_iln C0 (d_X10_owed_1) (hgq rfl) (s_zlt C0 (d_X10_owed_2) (by decide) (hgq rfl) (hgq rfl) (fun _ _ _ h => h) (s_iln C0 (d_X10_owed_5) (hgq rfl) (s_ic C0 (d_X10_owed_6) (hgq rfl) (s_cge C0 (d_X10_owed_7) (by decide) (hgq rfl) (hgq rfl) (fun _ _ _ h => h) (s_iln C0 (d_X10_owed_10) (hgq rfl) (s_zlt C0 (d_X10_owed_11) (by decide) (hgq rfl) (hgq rfl) (fun _ _ _ h => h) (s_iln C0 (d_X10_owed_14) (hgq rfl) (s_si C0 (d_X10_owed_15) (hgq rfl) (s_cgt C0 (d_X10_owed_18) (by decide) (hgq rfl) (hgq rfl) (fun _ _ _ h => h) (s_iln C0 (d_X10_owed_21) (hgq rfl) (s_zeq C0 (d_X10_owed_22) (by decide) (hgq rfl) (hgq rfl) (fun _ _ _ h => h) (s_iln C0 (d_X10_owed_25) (hgq rfl) (s_ic C0 (d_X10_owed_26) (hgq rfl) (s_cne C0 (d_X10_owed_27) (by decide) (hgq rfl) (hgq rfl) (fun _ _ _ h => h) (fun _ _ _ h => h)) (okn rfl)))))) (okn rfl) rfl))))) (okn rfl))))),
  s_ic C0 (d_X10_owed_30) (hgq rfl) (s_goto C0 (tgt := 35) (d_X10_owed_31) (by decide) (hgq rfl) (fun _ _ _ h => h)) (okn rfl),
  s_ic C0 (d_X10_owed_34) (hgq rfl) (fun _ _ _ h => h) (okn rfl),
  s_callV C0 hE (c_X10_needArgument l hl0) wg563 wg560 wg562 ws13 wg1 ⟨by decide, by decide⟩ (by decide +kernel) (c0 := 10) rfl ⟨by decide, by decide⟩ ⟨by decide, by decide⟩ (d_X10_owed_35) (fun x hx => (hno x hx).elim) ⟨by decide, by decide⟩ ⟨by decide, by decide⟩ (s_aln C0 (d_X10_owed_38) (hgq rfl) (s_gr C0 (j := 14) (c0 := 10) rfl gX10 (by decide) rfl rfl wg407 (d_X10_owed_39) (hgq rfl) (s_aln C0 (d_X10_owed_42) (hgq rfl) (s_gm C0 (j := 1) (c0 := 10) rfl gX10 (by decide) rfl rfl wg394 (d_X10_owed_43) (hgq rfl) (s_callVN C0 hE (c_X7_weighParties l) wg503 wn500 wg502 ws6 wg10 ⟨by decide, by decide⟩ (by decide +kernel) (c0 := 7) rfl ⟨by decide, by decide⟩ ⟨by decide, by decide⟩ (d_X10_owed_46) (fun x hx => (hno x hx).elim) ⟨by decide, by decide⟩ ⟨by decide, by decide⟩ (s_iln C0 (d_X10_owed_49) (hgq rfl) (s_aln C0 (d_X10_owed_50) (hgq rfl) (s_gr C0 (j := 14) (c0 := 10) rfl gX10 (by decide) rfl rfl wg407 (d_X10_owed_51) (hgq rfl) (s_iln C0 (d_X10_owed_54) (hgq rfl) (s_callVN C0 hE (c_X7_ordersTurnedBy l) wg1085 wn1082 wg1084 ws68 wg10 ⟨by decide, by decide⟩ (by decide +kernel) (c0 := 7) rfl ⟨by decide, by decide⟩ ⟨by decide, by decide⟩ (d_X10_owed_55) (fun x hx => (hno x hx).elim) ⟨by decide, by decide⟩ ⟨by decide, by decide⟩ (s_mul C0 (d_X10_owed_58) (hgq rfl) (s_is C0 (d_X10_owed_59) (hgq rfl) (s_il C0 (d_X10_owed_61) (hgq rfl) (s_bi C0 (d_X10_owed_63) (hgq rfl) (s_callS C0 hE (c_X10_greatestShared l) wg1092 wg1090 wg1091 wg1 ⟨by decide, by decide⟩ (by decide +kernel) ⟨by decide, by decide⟩ ⟨by decide, by decide⟩ (d_X10_owed_65) (fun x hx => (hno x hx).elim) ⟨by decide, by decide⟩ ⟨by decide, by decide⟩ (s_is C0 (d_X10_owed_68) (hgq rfl) (s_iln C0 (d_X10_owed_70) (hgq rfl) (s_zne C0 (d_X10_owed_71) (by decide) (hgq rfl) (hgq rfl) (fun _ _ _ h => h) (s_il C0 (d_X10_owed_74) (hgq rfl) (s_goto C0 (tgt := 81) (d_X10_owed_76) (by decide) (hgq rfl) (fun _ _ _ h => h))))))) (okn rfl) rfl)))))))))))))),
  s_bi C0 (d_X10_owed_79) (hgq rfl) (fun _ _ _ h => h) (okn rfl) rfl,
  s_il C0 (d_X10_owed_81) (hgq rfl) (s_callS C0 hE (c_X10_cut l) wg867 wg1093 wg866 wg1 ⟨by decide, by decide⟩ (by decide +kernel) ⟨by decide, by decide⟩ ⟨by decide, by decide⟩ (d_X10_owed_83) (fun x hx => (hno x hx).elim) ⟨by decide, by decide⟩ ⟨by decide, by decide⟩ (s_ri C0 hr (d_X10_owed_86) ⟨by decide, by decide⟩))⟩
theorem c_X10_owed (l : Launch) (hl0 : l.stackTraces = false) : Ctr l yX10_owed cX10_owed 6 (some .int) 13 267 1 (fun sx => F_X10_owed) := ctr_of (by decide) (gl [(35, 1)]) (gl6 [(35, 1)]) ⟨rfl, rfl⟩ (fun p e s m args below meth c D ca ad sx sy A Q as M C0 hE hr hno hF => P_X10_owed (L_X10_owed hl0 C0 hE hr hno) hF)
theorem d_X10_passes_0 : decode cX10_passes 0 = .ok (.aload_n 0, 1) := by decide +kernel
theorem d_X10_passes_1 : decode cX10_passes 1 = .ok (.iload_n 1, 1) := by decide +kernel
theorem d_X10_passes_2 : decode cX10_passes 2 = .ok (.invokestatic 215, 3) := by decide +kernel
theorem d_X10_passes_5 : decode cX10_passes 5 = .ok (.invokevirtual 104, 3) := by decide +kernel
theorem d_X10_passes_8 : decode cX10_passes 8 = .ok (.aload_n 0, 1) := by decide +kernel
theorem d_X10_passes_9 : decode cX10_passes 9 = .ok (.invokevirtual 186, 3) := by decide +kernel
theorem d_X10_passes_12 : decode cX10_passes 12 = .ok (.iload_n 1, 1) := by decide +kernel
theorem d_X10_passes_13 : decode cX10_passes 13 = .ok (.invokevirtual 226, 3) := by decide +kernel
theorem d_X10_passes_16 : decode cX10_passes 16 = .ok (.ireturn, 1) := by decide +kernel
set_option maxRecDepth 100000 in
theorem L_X10_passes {p : Program} {l : Launch} {e : Env} {s : State} {m : MethodId} {args : Array Value} {below : List Frame} {meth : Method} {c : Code} {D : va_G} {ca : Nat → ClassId} {ad sx sy : Nat → Nat} {A : Nat → Prop} {Q : QT} (hl0 : l.stackTraces = false) (C0 : CX p s m args meth c cX10_passes 2 yX10_passes.cls D ca ad A) (hE : EX sx sy A s s.heap) (hr : meth.sig.returnType = (some .int)) (hno : ∀ x ∈ c.exceptionTable.toList, False) : R_X10_passes (JW p l e { frames := 16, cells := 1, slots := 6 * 1, locals := 336 } s m args below meth c 2 D ca ad A (vx_MQ below (Qn D ca ad A Q) (Qx D ca ad A Q) args s 1 (6 * 1) A) (gl [(5, 1)]) (gl6 [(5, 1)]) true) Q := s_aln C0 (d_X10_passes_0) (hgq rfl) (s_iln C0 (d_X10_passes_1) (hgq rfl) (s_callS C0 hE (c_X10_isLaw l) wg972 wg970 wg971 wg1 ⟨by decide, by decide⟩ (by decide +kernel) ⟨by decide, by decide⟩ ⟨by decide, by decide⟩ (d_X10_passes_2) (fun x hx => (hno x hx).elim) ⟨by decide, by decide⟩ ⟨by decide, by decide⟩ (s_callV C0 hE (c_X10_needArgument l hl0) wg563 wg560 wg562 ws13 wg1 ⟨by decide, by decide⟩ (by decide +kernel) (c0 := 10) rfl ⟨by decide, by decide⟩ ⟨by decide, by decide⟩ (d_X10_passes_5) (fun x hx => (hno x hx).elim) ⟨by decide, by decide⟩ ⟨by decide, by decide⟩ (s_aln C0 (d_X10_passes_8) (hgq rfl) (s_callV C0 hE (c_X10_chronicled l) wg844 wg841 wg843 ws38 wg1 ⟨by decide, by decide⟩ (by decide +kernel) (c0 := 10) rfl ⟨by decide, by decide⟩ ⟨by decide, by decide⟩ (d_X10_passes_9) (fun x hx => (hno x hx).elim) ⟨by decide, by decide⟩ ⟨by decide, by decide⟩ (s_iln C0 (d_X10_passes_12) (hgq rfl) (s_callVN C0 hE (c_X3_passedBits l) wg992 wn989 wg991 ws60 wg6 ⟨by decide, by decide⟩ (by decide +kernel) (c0 := 3) rfl ⟨by decide, by decide⟩ ⟨by decide, by decide⟩ (d_X10_passes_13) (fun x hx => (hno x hx).elim) ⟨by decide, by decide⟩ ⟨by decide, by decide⟩ (s_ri C0 hr (d_X10_passes_16) ⟨by decide, by decide⟩))))))))
theorem c_X10_passes (l : Launch) (hl0 : l.stackTraces = false) : Ctr l yX10_passes cX10_passes 2 (some .int) 16 336 1 (fun sx => F_X10_passes) := ctr_of (by decide) (gl [(5, 1)]) (gl6 [(5, 1)]) ⟨rfl, rfl⟩ (fun p e s m args below meth c D ca ad sx sy A Q as M C0 hE hr hno hF => P_X10_passes (L_X10_passes hl0 C0 hE hr hno) hF)
theorem wg403 : Cond.fieldLink "WeighedHall" 61 "WeighedHall" "pausing" "LWeighedHall$Sitting;" ∈ GT := gt_mem 523 (by decide +kernel) rfl
theorem d_X10_pauseFrom_0 : decode cX10_pauseFrom 0 = .ok (.aload_n 0, 1) := by decide +kernel
theorem d_X10_pauseFrom_1 : decode cX10_pauseFrom 1 = .ok (.getfield 61, 3) := by decide +kernel
theorem d_X10_pauseFrom_4 : decode cX10_pauseFrom 4 = .ok (.aload_n 0, 1) := by decide +kernel
theorem d_X10_pauseFrom_5 : decode cX10_pauseFrom 5 = .ok (.getfield 19, 3) := by decide +kernel
theorem d_X10_pauseFrom_8 : decode cX10_pauseFrom 8 = .ok (.aload_n 0, 1) := by decide +kernel
theorem d_X10_pauseFrom_9 : decode cX10_pauseFrom 9 = .ok (.getfield 29, 3) := by decide +kernel
theorem d_X10_pauseFrom_12 : decode cX10_pauseFrom 12 = .ok (.iconst (-1), 1) := by decide +kernel
theorem d_X10_pauseFrom_13 : decode cX10_pauseFrom 13 = .ok (.invokevirtual 248, 3) := by decide +kernel
theorem d_X10_pauseFrom_16 : decode cX10_pauseFrom 16 = .ok (.iconst 0, 1) := by decide +kernel
theorem d_X10_pauseFrom_17 : decode cX10_pauseFrom 17 = .ok (.istore_n 2, 1) := by decide +kernel
theorem d_X10_pauseFrom_18 : decode cX10_pauseFrom 18 = .ok (.iload_n 2, 1) := by decide +kernel
theorem d_X10_pauseFrom_19 : decode cX10_pauseFrom 19 = .ok (.iload_n 1, 1) := by decide +kernel
theorem d_X10_pauseFrom_20 : decode cX10_pauseFrom 20 = .ok (.if_icmp .ge 18, 3) := by decide +kernel
theorem d_X10_pauseFrom_23 : decode cX10_pauseFrom 23 = .ok (.aload_n 0, 1) := by decide +kernel
theorem d_X10_pauseFrom_24 : decode cX10_pauseFrom 24 = .ok (.getfield 61, 3) := by decide +kernel
theorem d_X10_pauseFrom_27 : decode cX10_pauseFrom 27 = .ok (.iload_n 2, 1) := by decide +kernel
theorem d_X10_pauseFrom_28 : decode cX10_pauseFrom 28 = .ok (.iload_n 2, 1) := by decide +kernel
theorem d_X10_pauseFrom_29 : decode cX10_pauseFrom 29 = .ok (.invokevirtual 252, 3) := by decide +kernel
theorem d_X10_pauseFrom_32 : decode cX10_pauseFrom 32 = .ok (.iinc 2 1, 3) := by decide +kernel
theorem d_X10_pauseFrom_35 : decode cX10_pauseFrom 35 = .ok (.goto (-17), 3) := by decide +kernel
theorem d_X10_pauseFrom_38 : decode cX10_pauseFrom 38 = .ok (.return_, 1) := by decide +kernel
set_option maxRecDepth 100000 in
theorem L_X10_pauseFrom {p : Program} {l : Launch} {e : Env} {s : State} {m : MethodId} {args : Array Value} {below : List Frame} {meth : Method} {c : Code} {D : va_G} {ca : Nat → ClassId} {ad sx sy : Nat → Nat} {A : Nat → Prop} {Q : QT} (C0 : CX p s m args meth c cX10_pauseFrom 3 yX10_pauseFrom.cls D ca ad A) (hE : EX sx sy A s s.heap) (hr : meth.sig.returnType = none) (hno : ∀ x ∈ c.exceptionTable.toList, False) : R_X10_pauseFrom (JW p l e { frames := 14, cells := 0, slots := 6 * 0, locals := 293 } s m args below meth c 3 D ca ad A (vx_MQ below (Qn D ca ad A Q) (Qx D ca ad A Q) args s 0 (6 * 0) A) gz gz true) Q := ⟨s_aln C0 (d_X10_pauseFrom_0) hgz (s_gr C0 (j := 10) (c0 := 10) rfl gX10 (by decide) rfl rfl wg403 (d_X10_pauseFrom_1) hgz (s_aln C0 (d_X10_pauseFrom_4) hgz (s_gm C0 (j := 1) (c0 := 10) rfl gX10 (by decide) rfl rfl wg394 (d_X10_pauseFrom_5) hgz (s_aln C0 (d_X10_pauseFrom_8) hgz (s_gm C0 (j := 3) (c0 := 10) rfl gX10 (by decide) rfl rfl wg396 (d_X10_pauseFrom_9) hgz (s_ic C0 (d_X10_pauseFrom_12) hgz (s_callVN C0 hE (c_X8_begin l) wg852 wn1048 wg851 ws40 wg7 ⟨by decide, by decide⟩ (by decide +kernel) (c0 := 8) rfl ⟨by decide, by decide⟩ ⟨by decide, by decide⟩ (d_X10_pauseFrom_13) (fun x hx => (hno x hx).elim) ⟨by decide, by decide⟩ ⟨by decide, by decide⟩ (s_ic C0 (d_X10_pauseFrom_16) hgz (s_isn C0 (d_X10_pauseFrom_17) hgz (fun _ _ _ h => h)) (okn rfl))) (okn rfl))))))),
  s_iln C0 (d_X10_pauseFrom_18) hgz (s_iln C0 (d_X10_pauseFrom_19) hgz (s_cge C0 (d_X10_pauseFrom_20) (by decide) hgz hgz (fun _ _ _ h => h) (s_aln C0 (d_X10_pauseFrom_23) hgz (s_gr C0 (j := 10) (c0 := 10) rfl gX10 (by decide) rfl rfl wg403 (d_X10_pauseFrom_24) hgz (s_iln C0 (d_X10_pauseFrom_27) hgz (s_iln C0 (d_X10_pauseFrom_28) hgz (s_callVN C0 hE (c_X8_goThrough l) wg871 wn1049 wg870 ws43 wg7 ⟨by decide, by decide⟩ (by decide +kernel) (c0 := 8) rfl ⟨by decide, by decide⟩ ⟨by decide, by decide⟩ (d_X10_pauseFrom_29) (fun x hx => (hno x hx).elim) ⟨by decide, by decide⟩ ⟨by decide, by decide⟩ (s_inc C0 (d_X10_pauseFrom_32) hgz (s_goto C0 (tgt := 18) (d_X10_pauseFrom_35) (by decide) hgz (fun _ _ _ h => h)))))))))),
  s_rv C0 hr (d_X10_pauseFrom_38) ⟨by decide, by decide⟩⟩
theorem c_X10_pauseFrom (l : Launch) : Ctr l yX10_pauseFrom cX10_pauseFrom 3 none 14 293 0 (fun sx => (nf G_X10_pauseFrom)) := ctr_of (by decide) gz gz ⟨rfl, rfl⟩ (fun p e s m args below meth c D ca ad sx sy A Q as M C0 hE hr hno hF => P_X10_pauseFrom (L_X10_pauseFrom C0 hE hr hno) hF)
theorem wn808 : Cond.methodLinkNest "WeighedHall" 156 ⟨"WeighedHall$Plan", "hasPerson", "(I)Z"⟩ "WeighedHall" ∈ NT := nt_mem 808 (by decide +kernel) rfl
theorem wn79 : Cond.fieldLinkNest "WeighedHall" 163 "WeighedHall$Plan" "party" "[I" "WeighedHall" ∈ NT := nt_mem 79 (by decide +kernel) rfl
theorem wn83 : Cond.fieldLinkNest "WeighedHall" 167 "WeighedHall$Plan" "arm" "[I" "WeighedHall" ∈ NT := nt_mem 83 (by decide +kernel) rfl
theorem wn832 : Cond.methodLinkNest "WeighedHall" 170 ⟨"WeighedHall$Plan", "ownPounds", "(I)I"⟩ "WeighedHall" ∈ NT := nt_mem 832 (by decide +kernel) rfl
theorem d_X10_person_0 : decode cX10_person 0 = .ok (.aload_n 0, 1) := by decide +kernel
theorem d_X10_person_1 : decode cX10_person 1 = .ok (.aload_n 0, 1) := by decide +kernel
theorem d_X10_person_2 : decode cX10_person 2 = .ok (.getfield 19, 3) := by decide +kernel
theorem d_X10_person_5 : decode cX10_person 5 = .ok (.iload_n 1, 1) := by decide +kernel
theorem d_X10_person_6 : decode cX10_person 6 = .ok (.invokevirtual 156, 3) := by decide +kernel
theorem d_X10_person_9 : decode cX10_person 9 = .ok (.invokevirtual 160, 3) := by decide +kernel
theorem d_X10_person_12 : decode cX10_person 12 = .ok (.aload_n 0, 1) := by decide +kernel
theorem d_X10_person_13 : decode cX10_person 13 = .ok (.iload_n 2, 1) := by decide +kernel
theorem d_X10_person_14 : decode cX10_person 14 = .ok (.ifCond .lt 12, 3) := by decide +kernel
theorem d_X10_person_17 : decode cX10_person 17 = .ok (.iload_n 2, 1) := by decide +kernel
theorem d_X10_person_18 : decode cX10_person 18 = .ok (.iconst 2, 1) := by decide +kernel
theorem d_X10_person_19 : decode cX10_person 19 = .ok (.if_icmp .gt 7, 3) := by decide +kernel
theorem d_X10_person_22 : decode cX10_person 22 = .ok (.iconst 1, 1) := by decide +kernel
theorem d_X10_person_23 : decode cX10_person 23 = .ok (.goto 4, 3) := by decide +kernel
theorem d_X10_person_26 : decode cX10_person 26 = .ok (.iconst 0, 1) := by decide +kernel
theorem d_X10_person_27 : decode cX10_person 27 = .ok (.invokevirtual 104, 3) := by decide +kernel
theorem d_X10_person_30 : decode cX10_person 30 = .ok (.iload_n 2, 1) := by decide +kernel
theorem d_X10_person_31 : decode cX10_person 31 = .ok (.lookupswitch 45 #[(0, 25), (1, 35)], 25) := by decide +kernel
theorem d_X10_person_56 : decode cX10_person 56 = .ok (.aload_n 0, 1) := by decide +kernel
theorem d_X10_person_57 : decode cX10_person 57 = .ok (.getfield 19, 3) := by decide +kernel
theorem d_X10_person_60 : decode cX10_person 60 = .ok (.getfield 163, 3) := by decide +kernel
theorem d_X10_person_63 : decode cX10_person 63 = .ok (.iload_n 1, 1) := by decide +kernel
theorem d_X10_person_64 : decode cX10_person 64 = .ok (.iaload, 1) := by decide +kernel
theorem d_X10_person_65 : decode cX10_person 65 = .ok (.ireturn, 1) := by decide +kernel
theorem d_X10_person_66 : decode cX10_person 66 = .ok (.aload_n 0, 1) := by decide +kernel
theorem d_X10_person_67 : decode cX10_person 67 = .ok (.getfield 19, 3) := by decide +kernel
theorem d_X10_person_70 : decode cX10_person 70 = .ok (.getfield 167, 3) := by decide +kernel
theorem d_X10_person_73 : decode cX10_person 73 = .ok (.iload_n 1, 1) := by decide +kernel
theorem d_X10_person_74 : decode cX10_person 74 = .ok (.iaload, 1) := by decide +kernel
theorem d_X10_person_75 : decode cX10_person 75 = .ok (.ireturn, 1) := by decide +kernel
theorem d_X10_person_76 : decode cX10_person 76 = .ok (.aload_n 0, 1) := by decide +kernel
theorem d_X10_person_77 : decode cX10_person 77 = .ok (.getfield 19, 3) := by decide +kernel
theorem d_X10_person_80 : decode cX10_person 80 = .ok (.iload_n 1, 1) := by decide +kernel
theorem d_X10_person_81 : decode cX10_person 81 = .ok (.invokevirtual 170, 3) := by decide +kernel
theorem d_X10_person_84 : decode cX10_person 84 = .ok (.ireturn, 1) := by decide +kernel
set_option maxRecDepth 100000 in
theorem L_X10_person {p : Program} {l : Launch} {e : Env} {s : State} {m : MethodId} {args : Array Value} {below : List Frame} {meth : Method} {c : Code} {D : va_G} {ca : Nat → ClassId} {ad sx sy : Nat → Nat} {A : Nat → Prop} {Q : QT} (hl0 : l.stackTraces = false) (C0 : CX p s m args meth c cX10_person 3 yX10_person.cls D ca ad A) (hE : EX sx sy A s s.heap) (hr : meth.sig.returnType = (some .int)) (hno : ∀ x ∈ c.exceptionTable.toList, False) : R_X10_person (JW p l e { frames := 11, cells := 2, slots := 6 * 2, locals := 223 } s m args below meth c 3 D ca ad A (vx_MQ below (Qn D ca ad A Q) (Qx D ca ad A Q) args s 2 (6 * 2) A) (gl [(9, 1), (27, 1)]) (gl6 [(9, 1), (27, 1)]) true) Q := ⟨s_aln C0 (d_X10_person_0) (hgq rfl) (s_aln C0 (d_X10_person_1) (hgq rfl) (s_gm C0 (j := 1) (c0 := 10) rfl gX10 (by decide) rfl rfl wg394 (d_X10_person_2) (hgq rfl) (s_iln C0 (d_X10_person_5) (hgq rfl) (s_callVN C0 hE (c_X6_hasPerson l) wg811 wn808 wg810 ws36 wg3 ⟨by decide, by decide⟩ (by decide +kernel) (c0 := 6) rfl ⟨by decide, by decide⟩ ⟨by decide, by decide⟩ (d_X10_person_6) (fun x hx => (hno x hx).elim) ⟨by decide, by decide⟩ ⟨by decide, by decide⟩ (s_callV C0 hE (c_X10_needElement l hl0) wg815 wg812 wg814 ws37 wg1 ⟨by decide, by decide⟩ (by decide +kernel) (c0 := 10) rfl ⟨by decide, by decide⟩ ⟨by decide, by decide⟩ (d_X10_person_9) (fun x hx => (hno x hx).elim) ⟨by decide, by decide⟩ ⟨by decide, by decide⟩ (s_aln C0 (d_X10_person_12) (hgq rfl) (s_iln C0 (d_X10_person_13) (hgq rfl) (s_zlt C0 (d_X10_person_14) (by decide) (hgq rfl) (hgq rfl) (fun _ _ _ h => h) (s_iln C0 (d_X10_person_17) (hgq rfl) (s_ic C0 (d_X10_person_18) (hgq rfl) (s_cgt C0 (d_X10_person_19) (by decide) (hgq rfl) (hgq rfl) (fun _ _ _ h => h) (s_ic C0 (d_X10_person_22) (hgq rfl) (s_goto C0 (tgt := 27) (d_X10_person_23) (by decide) (hgq rfl) (fun _ _ _ h => h)) (okn rfl))) (okn rfl))))))))))),
  s_ic C0 (d_X10_person_26) (hgq rfl) (fun _ _ _ h => h) (okn rfl),
  s_callV C0 hE (c_X10_needArgument l hl0) wg563 wg560 wg562 ws13 wg1 ⟨by decide, by decide⟩ (by decide +kernel) (c0 := 10) rfl ⟨by decide, by decide⟩ ⟨by decide, by decide⟩ (d_X10_person_27) (fun x hx => (hno x hx).elim) ⟨by decide, by decide⟩ ⟨by decide, by decide⟩ (s_iln C0 (d_X10_person_30) (hgq rfl) (s_look C0 (d_X10_person_31) (by decide) (lk_X10_person_31) (hgt rfl) (fun _ _ _ _ _ h => h))),
  s_aln C0 (d_X10_person_56) (hgq rfl) (s_gm C0 (j := 1) (c0 := 10) rfl gX10 (by decide) rfl rfl wg394 (d_X10_person_57) (hgq rfl) (s_grN C0 (j := 1) (c0 := 6) rfl gX6 (by decide) rfl rfl wn79 (d_X10_person_60) (hgq rfl) (s_iln C0 (d_X10_person_63) (hgq rfl) (s_ia C0 (d_X10_person_64) (hgq rfl) (s_ri C0 hr (d_X10_person_65) ⟨by decide, by decide⟩))))),
  s_aln C0 (d_X10_person_66) (hgq rfl) (s_gm C0 (j := 1) (c0 := 10) rfl gX10 (by decide) rfl rfl wg394 (d_X10_person_67) (hgq rfl) (s_grN C0 (j := 2) (c0 := 6) rfl gX6 (by decide) rfl rfl wn83 (d_X10_person_70) (hgq rfl) (s_iln C0 (d_X10_person_73) (hgq rfl) (s_ia C0 (d_X10_person_74) (hgq rfl) (s_ri C0 hr (d_X10_person_75) ⟨by decide, by decide⟩))))),
  s_aln C0 (d_X10_person_76) (hgq rfl) (s_gm C0 (j := 1) (c0 := 10) rfl gX10 (by decide) rfl rfl wg394 (d_X10_person_77) (hgq rfl) (s_iln C0 (d_X10_person_80) (hgq rfl) (s_callVN C0 hE (c_X6_ownPounds l) wg475 wn832 wg474 ws3 wg3 ⟨by decide, by decide⟩ (by decide +kernel) (c0 := 6) rfl ⟨by decide, by decide⟩ ⟨by decide, by decide⟩ (d_X10_person_81) (fun x hx => (hno x hx).elim) ⟨by decide, by decide⟩ ⟨by decide, by decide⟩ (s_ri C0 hr (d_X10_person_84) ⟨by decide, by decide⟩))))⟩
theorem c_X10_person (l : Launch) (hl0 : l.stackTraces = false) : Ctr l yX10_person cX10_person 3 (some .int) 11 223 2 (fun sx => F_X10_person) := ctr_of (by decide) (gl [(9, 1), (27, 1)]) (gl6 [(9, 1), (27, 1)]) ⟨rfl, rfl⟩ (fun p e s m args below meth c D ca ad sx sy A Q as M C0 hE hr hno hF => P_X10_person (L_X10_person hl0 C0 hE hr hno) hF)
theorem wn104 : Cond.fieldLinkNest "WeighedHall$Chronicle" 96 "WeighedHall$Plan" "weight" "[I" "WeighedHall" ∈ NT := nt_mem 104 (by decide +kernel) rfl
theorem wg947 : Cond.methodLink "WeighedHall$Chronicle" 93 ⟨"WeighedHall$Chronicle", "holderOf", "(II)I"⟩ ∈ GT := gt_mem 1067 (by decide +kernel) rfl
theorem wn91 : Cond.fieldLinkNest "WeighedHall$Chronicle" 90 "WeighedHall$Plan" "things" "I" "WeighedHall" ∈ NT := nt_mem 91 (by decide +kernel) rfl
theorem d_X3_poundsWith_0 : decode cX3_poundsWith 0 = .ok (.aload_n 0, 1) := by decide +kernel
theorem d_X3_poundsWith_1 : decode cX3_poundsWith 1 = .ok (.getfield 12, 3) := by decide +kernel
theorem d_X3_poundsWith_4 : decode cX3_poundsWith 4 = .ok (.getfield 56, 3) := by decide +kernel
theorem d_X3_poundsWith_7 : decode cX3_poundsWith 7 = .ok (.astore_n 3, 1) := by decide +kernel
theorem d_X3_poundsWith_8 : decode cX3_poundsWith 8 = .ok (.iconst 0, 1) := by decide +kernel
theorem d_X3_poundsWith_9 : decode cX3_poundsWith 9 = .ok (.istore 4, 2) := by decide +kernel
theorem d_X3_poundsWith_11 : decode cX3_poundsWith 11 = .ok (.iconst 0, 1) := by decide +kernel
theorem d_X3_poundsWith_12 : decode cX3_poundsWith 12 = .ok (.istore 5, 2) := by decide +kernel
theorem d_X3_poundsWith_14 : decode cX3_poundsWith 14 = .ok (.iload 5, 2) := by decide +kernel
theorem d_X3_poundsWith_16 : decode cX3_poundsWith 16 = .ok (.aload_n 3, 1) := by decide +kernel
theorem d_X3_poundsWith_17 : decode cX3_poundsWith 17 = .ok (.getfield 90, 3) := by decide +kernel
theorem d_X3_poundsWith_20 : decode cX3_poundsWith 20 = .ok (.if_icmp .ge 32, 3) := by decide +kernel
theorem d_X3_poundsWith_23 : decode cX3_poundsWith 23 = .ok (.aload_n 0, 1) := by decide +kernel
theorem d_X3_poundsWith_24 : decode cX3_poundsWith 24 = .ok (.iload 5, 2) := by decide +kernel
theorem d_X3_poundsWith_26 : decode cX3_poundsWith 26 = .ok (.iload_n 2, 1) := by decide +kernel
theorem d_X3_poundsWith_27 : decode cX3_poundsWith 27 = .ok (.invokevirtual 93, 3) := by decide +kernel
theorem d_X3_poundsWith_30 : decode cX3_poundsWith 30 = .ok (.iload_n 1, 1) := by decide +kernel
theorem d_X3_poundsWith_31 : decode cX3_poundsWith 31 = .ok (.if_icmp .ne 15, 3) := by decide +kernel
theorem d_X3_poundsWith_34 : decode cX3_poundsWith 34 = .ok (.iload 4, 2) := by decide +kernel
theorem d_X3_poundsWith_36 : decode cX3_poundsWith 36 = .ok (.aload_n 3, 1) := by decide +kernel
theorem d_X3_poundsWith_37 : decode cX3_poundsWith 37 = .ok (.getfield 96, 3) := by decide +kernel
theorem d_X3_poundsWith_40 : decode cX3_poundsWith 40 = .ok (.iload 5, 2) := by decide +kernel
theorem d_X3_poundsWith_42 : decode cX3_poundsWith 42 = .ok (.iaload, 1) := by decide +kernel
theorem d_X3_poundsWith_43 : decode cX3_poundsWith 43 = .ok (.iadd, 1) := by decide +kernel
theorem d_X3_poundsWith_44 : decode cX3_poundsWith 44 = .ok (.istore 4, 2) := by decide +kernel
theorem d_X3_poundsWith_46 : decode cX3_poundsWith 46 = .ok (.iinc 5 1, 3) := by decide +kernel
theorem d_X3_poundsWith_49 : decode cX3_poundsWith 49 = .ok (.goto (-35), 3) := by decide +kernel
theorem d_X3_poundsWith_52 : decode cX3_poundsWith 52 = .ok (.iload 4, 2) := by decide +kernel
theorem d_X3_poundsWith_54 : decode cX3_poundsWith 54 = .ok (.ireturn, 1) := by decide +kernel
set_option maxRecDepth 100000 in
theorem L_X3_poundsWith {p : Program} {l : Launch} {e : Env} {s : State} {m : MethodId} {args : Array Value} {below : List Frame} {meth : Method} {c : Code} {D : va_G} {ca : Nat → ClassId} {ad sx sy : Nat → Nat} {A : Nat → Prop} {Q : QT} (C0 : CX p s m args meth c cX3_poundsWith 6 yX3_poundsWith.cls D ca ad A) (hE : EX sx sy A s s.heap) (hr : meth.sig.returnType = (some .int)) (hno : ∀ x ∈ c.exceptionTable.toList, False) : R_X3_poundsWith (JW p l e { frames := 11, cells := 0, slots := 6 * 0, locals := 223 } s m args below meth c 6 D ca ad A (vx_MQ below (Qn D ca ad A Q) (Qx D ca ad A Q) args s 0 (6 * 0) A) gz gz true) Q := ⟨s_aln C0 (d_X3_poundsWith_0) hgz (s_gr C0 (j := 0) (c0 := 3) rfl gX3 (by decide) rfl rfl wg269 (d_X3_poundsWith_1) hgz (s_gmN C0 (j := 0) (c0 := 8) rfl gX8 (by decide) rfl rfl wn237 (d_X3_poundsWith_4) hgz (s_asn C0 (d_X3_poundsWith_7) hgz (s_ic C0 (d_X3_poundsWith_8) hgz (s_is C0 (d_X3_poundsWith_9) hgz (s_ic C0 (d_X3_poundsWith_11) hgz (s_is C0 (d_X3_poundsWith_12) hgz (fun _ _ _ h => h)) (okn rfl))) (okn rfl))))),
  s_il C0 (d_X3_poundsWith_14) hgz (s_aln C0 (d_X3_poundsWith_16) hgz (s_giN C0 (j := 3) (c0 := 6) rfl gX6 (by decide) rfl (by decide) wn91 (d_X3_poundsWith_17) hgz (s_cge C0 (d_X3_poundsWith_20) (by decide) hgz hgz (fun _ _ _ h => h) (s_aln C0 (d_X3_poundsWith_23) hgz (s_il C0 (d_X3_poundsWith_24) hgz (s_iln C0 (d_X3_poundsWith_26) hgz (s_callV C0 hE (c_X3_holderOf l) wg935 wg947 wg934 ws54 wg6 ⟨by decide, by decide⟩ (by decide +kernel) (c0 := 3) rfl ⟨by decide, by decide⟩ ⟨by decide, by decide⟩ (d_X3_poundsWith_27) (fun x hx => (hno x hx).elim) ⟨by decide, by decide⟩ ⟨by decide, by decide⟩ (s_iln C0 (d_X3_poundsWith_30) hgz (s_cne C0 (d_X3_poundsWith_31) (by decide) hgz hgz (fun _ _ _ h => h) (s_il C0 (d_X3_poundsWith_34) hgz (s_aln C0 (d_X3_poundsWith_36) hgz (s_grN C0 (j := 5) (c0 := 6) rfl gX6 (by decide) rfl rfl wn104 (d_X3_poundsWith_37) hgz (s_il C0 (d_X3_poundsWith_40) hgz (s_ia C0 (d_X3_poundsWith_42) hgz (s_add C0 (d_X3_poundsWith_43) hgz (s_is C0 (d_X3_poundsWith_44) hgz (fun _ _ _ h => h))))))))))))))))),
  s_inc C0 (d_X3_poundsWith_46) hgz (s_goto C0 (tgt := 14) (d_X3_poundsWith_49) (by decide) hgz (fun _ _ _ h => h)),
  s_il C0 (d_X3_poundsWith_52) hgz (s_ri C0 hr (d_X3_poundsWith_54) ⟨by decide, by decide⟩)⟩
theorem c_X3_poundsWith (l : Launch) : Ctr l yX3_poundsWith cX3_poundsWith 6 (some .int) 11 223 0 (fun sx => (nf G_X3_poundsWith)) := ctr_of (by decide) gz gz ⟨rfl, rfl⟩ (fun p e s m args below meth c D ca ad sx sy A Q as M C0 hE hr hno hF => P_X3_poundsWith (L_X3_poundsWith C0 hE hr hno) hF)
theorem d_X3_strengthOf_0 : decode cX3_strengthOf 0 = .ok (.iload_n 2, 1) := by decide +kernel
theorem d_X3_strengthOf_1 : decode cX3_strengthOf 1 = .ok (.bipush 10, 2) := by decide +kernel
theorem d_X3_strengthOf_3 : decode cX3_strengthOf 3 = .ok (.imul, 1) := by decide +kernel
theorem d_X3_strengthOf_4 : decode cX3_strengthOf 4 = .ok (.iload_n 1, 1) := by decide +kernel
theorem d_X3_strengthOf_5 : decode cX3_strengthOf 5 = .ok (.iadd, 1) := by decide +kernel
theorem d_X3_strengthOf_6 : decode cX3_strengthOf 6 = .ok (.istore_n 3, 1) := by decide +kernel
theorem d_X3_strengthOf_7 : decode cX3_strengthOf 7 = .ok (.iload_n 3, 1) := by decide +kernel
theorem d_X3_strengthOf_8 : decode cX3_strengthOf 8 = .ok (.ifCond .lt 21, 3) := by decide +kernel
theorem d_X3_strengthOf_11 : decode cX3_strengthOf 11 = .ok (.iload_n 3, 1) := by decide +kernel
theorem d_X3_strengthOf_12 : decode cX3_strengthOf 12 = .ok (.aload_n 0, 1) := by decide +kernel
theorem d_X3_strengthOf_13 : decode cX3_strengthOf 13 = .ok (.getfield 22, 3) := by decide +kernel
theorem d_X3_strengthOf_16 : decode cX3_strengthOf 16 = .ok (.arraylength, 1) := by decide +kernel
theorem d_X3_strengthOf_17 : decode cX3_strengthOf 17 = .ok (.if_icmp .ge 12, 3) := by decide +kernel
theorem d_X3_strengthOf_20 : decode cX3_strengthOf 20 = .ok (.aload_n 0, 1) := by decide +kernel
theorem d_X3_strengthOf_21 : decode cX3_strengthOf 21 = .ok (.getfield 22, 3) := by decide +kernel
theorem d_X3_strengthOf_24 : decode cX3_strengthOf 24 = .ok (.iload_n 3, 1) := by decide +kernel
theorem d_X3_strengthOf_25 : decode cX3_strengthOf 25 = .ok (.iaload, 1) := by decide +kernel
theorem d_X3_strengthOf_26 : decode cX3_strengthOf 26 = .ok (.goto 4, 3) := by decide +kernel
theorem d_X3_strengthOf_29 : decode cX3_strengthOf 29 = .ok (.iconst 0, 1) := by decide +kernel
theorem d_X3_strengthOf_30 : decode cX3_strengthOf 30 = .ok (.ireturn, 1) := by decide +kernel
set_option maxRecDepth 100000 in
theorem L_X3_strengthOf {p : Program} {l : Launch} {e : Env} {s : State} {m : MethodId} {args : Array Value} {below : List Frame} {meth : Method} {c : Code} {D : va_G} {ca : Nat → ClassId} {ad sx sy : Nat → Nat} {A : Nat → Prop} {Q : QT} (C0 : CX p s m args meth c cX3_strengthOf 4 yX3_strengthOf.cls D ca ad A) (hE : EX sx sy A s s.heap) (hr : meth.sig.returnType = (some .int)) (hno : ∀ x ∈ c.exceptionTable.toList, False) : R_X3_strengthOf (JW p l e { frames := 10, cells := 0, slots := 6 * 0, locals := 200 } s m args below meth c 4 D ca ad A (vx_MQ below (Qn D ca ad A Q) (Qx D ca ad A Q) args s 0 (6 * 0) A) gz gz true) Q := ⟨s_iln C0 (d_X3_strengthOf_0) hgz (s_bi C0 (d_X3_strengthOf_1) hgz (s_mul C0 (d_X3_strengthOf_3) hgz (s_iln C0 (d_X3_strengthOf_4) hgz (s_add C0 (d_X3_strengthOf_5) hgz (s_isn C0 (d_X3_strengthOf_6) hgz (s_iln C0 (d_X3_strengthOf_7) hgz (s_zlt C0 (d_X3_strengthOf_8) (by decide) hgz hgz (fun _ _ _ h => h) (s_iln C0 (d_X3_strengthOf_11) hgz (s_aln C0 (d_X3_strengthOf_12) hgz (s_gr C0 (j := 2) (c0 := 3) rfl gX3 (by decide) rfl rfl wg272 (d_X3_strengthOf_13) hgz (s_len C0 (d_X3_strengthOf_16) hgz (s_cge C0 (d_X3_strengthOf_17) (by decide) hgz hgz (fun _ _ _ h => h) (s_aln C0 (d_X3_strengthOf_20) hgz (s_gr C0 (j := 2) (c0 := 3) rfl gX3 (by decide) rfl rfl wg272 (d_X3_strengthOf_21) hgz (s_iln C0 (d_X3_strengthOf_24) hgz (s_ia C0 (d_X3_strengthOf_25) hgz (s_goto C0 (tgt := 30) (d_X3_strengthOf_26) (by decide) hgz (fun _ _ _ h => h))))))))))))))))) (okn rfl) rfl),
  s_ic C0 (d_X3_strengthOf_29) hgz (fun _ _ _ h => h) (okn rfl),
  s_ri C0 hr (d_X3_strengthOf_30) ⟨by decide, by decide⟩⟩
theorem c_X3_strengthOf (l : Launch) : Ctr l yX3_strengthOf cX3_strengthOf 4 (some .int) 10 200 0 (fun sx => (nf G_X3_strengthOf)) := ctr_of (by decide) gz gz ⟨rfl, rfl⟩ (fun p e s m args below meth c D ca ad sx sy A Q as M C0 hE hr hno hF => P_X3_strengthOf (L_X3_strengthOf C0 hE hr hno) hF)
theorem wg946 : Cond.code ⟨"WeighedHall$Chronicle", "poundsWith", "(II)I"⟩ prog_5_method_10_code 6 (Option.some .int) ∈ GT := gt_mem 1066 (by decide +kernel) rfl
theorem wn943 : Cond.methodLinkNest "WeighedHall" 203 ⟨"WeighedHall$Chronicle", "poundsWith", "(II)I"⟩ "WeighedHall" ∈ NT := nt_mem 943 (by decide +kernel) rfl
theorem wg945 : Cond.instanceMethod ⟨"WeighedHall$Chronicle", "poundsWith", "(II)I"⟩ ∈ GT := gt_mem 1065 (by decide +kernel) rfl
theorem ws55 : Cond.selects "WeighedHall$Chronicle" ⟨"WeighedHall$Chronicle", "poundsWith", "(II)I"⟩ ⟨"WeighedHall$Chronicle", "poundsWith", "(II)I"⟩ ∈ GT := gt_mem 55 (by decide +kernel) rfl
theorem wg951 : Cond.code ⟨"WeighedHall$Chronicle", "strengthOf", "(II)I"⟩ prog_5_method_9_code 4 (Option.some .int) ∈ GT := gt_mem 1071 (by decide +kernel) rfl
theorem wn948 : Cond.methodLinkNest "WeighedHall" 206 ⟨"WeighedHall$Chronicle", "strengthOf", "(II)I"⟩ "WeighedHall" ∈ NT := nt_mem 948 (by decide +kernel) rfl
theorem wg950 : Cond.instanceMethod ⟨"WeighedHall$Chronicle", "strengthOf", "(II)I"⟩ ∈ GT := gt_mem 1070 (by decide +kernel) rfl
theorem ws56 : Cond.selects "WeighedHall$Chronicle" ⟨"WeighedHall$Chronicle", "strengthOf", "(II)I"⟩ ⟨"WeighedHall$Chronicle", "strengthOf", "(II)I"⟩ ∈ GT := gt_mem 56 (by decide +kernel) rfl
theorem d_X10_pounds_0 : decode cX10_pounds 0 = .ok (.aload_n 0, 1) := by decide +kernel
theorem d_X10_pounds_1 : decode cX10_pounds 1 = .ok (.aload_n 0, 1) := by decide +kernel
theorem d_X10_pounds_2 : decode cX10_pounds 2 = .ok (.getfield 19, 3) := by decide +kernel
theorem d_X10_pounds_5 : decode cX10_pounds 5 = .ok (.iload_n 1, 1) := by decide +kernel
theorem d_X10_pounds_6 : decode cX10_pounds 6 = .ok (.invokevirtual 156, 3) := by decide +kernel
theorem d_X10_pounds_9 : decode cX10_pounds 9 = .ok (.invokevirtual 160, 3) := by decide +kernel
theorem d_X10_pounds_12 : decode cX10_pounds 12 = .ok (.aload_n 0, 1) := by decide +kernel
theorem d_X10_pounds_13 : decode cX10_pounds 13 = .ok (.iload_n 2, 1) := by decide +kernel
theorem d_X10_pounds_14 : decode cX10_pounds 14 = .ok (.invokestatic 196, 3) := by decide +kernel
theorem d_X10_pounds_17 : decode cX10_pounds 17 = .ok (.ifCond .eq 16, 3) := by decide +kernel
theorem d_X10_pounds_20 : decode cX10_pounds 20 = .ok (.iload_n 3, 1) := by decide +kernel
theorem d_X10_pounds_21 : decode cX10_pounds 21 = .ok (.ifCond .eq 8, 3) := by decide +kernel
theorem d_X10_pounds_24 : decode cX10_pounds 24 = .ok (.iload_n 3, 1) := by decide +kernel
theorem d_X10_pounds_25 : decode cX10_pounds 25 = .ok (.iconst 1, 1) := by decide +kernel
theorem d_X10_pounds_26 : decode cX10_pounds 26 = .ok (.if_icmp .ne 7, 3) := by decide +kernel
theorem d_X10_pounds_29 : decode cX10_pounds 29 = .ok (.iconst 1, 1) := by decide +kernel
theorem d_X10_pounds_30 : decode cX10_pounds 30 = .ok (.goto 4, 3) := by decide +kernel
theorem d_X10_pounds_33 : decode cX10_pounds 33 = .ok (.iconst 0, 1) := by decide +kernel
theorem d_X10_pounds_34 : decode cX10_pounds 34 = .ok (.invokevirtual 104, 3) := by decide +kernel
theorem d_X10_pounds_37 : decode cX10_pounds 37 = .ok (.iload_n 3, 1) := by decide +kernel
theorem d_X10_pounds_38 : decode cX10_pounds 38 = .ok (.ifCond .ne 15, 3) := by decide +kernel
theorem d_X10_pounds_41 : decode cX10_pounds 41 = .ok (.aload_n 0, 1) := by decide +kernel
theorem d_X10_pounds_42 : decode cX10_pounds 42 = .ok (.invokevirtual 186, 3) := by decide +kernel
theorem d_X10_pounds_45 : decode cX10_pounds 45 = .ok (.iload_n 1, 1) := by decide +kernel
theorem d_X10_pounds_46 : decode cX10_pounds 46 = .ok (.iload_n 2, 1) := by decide +kernel
theorem d_X10_pounds_47 : decode cX10_pounds 47 = .ok (.invokevirtual 203, 3) := by decide +kernel
theorem d_X10_pounds_50 : decode cX10_pounds 50 = .ok (.goto 12, 3) := by decide +kernel
theorem d_X10_pounds_53 : decode cX10_pounds 53 = .ok (.aload_n 0, 1) := by decide +kernel
theorem d_X10_pounds_54 : decode cX10_pounds 54 = .ok (.invokevirtual 186, 3) := by decide +kernel
theorem d_X10_pounds_57 : decode cX10_pounds 57 = .ok (.iload_n 1, 1) := by decide +kernel
theorem d_X10_pounds_58 : decode cX10_pounds 58 = .ok (.iload_n 2, 1) := by decide +kernel
theorem d_X10_pounds_59 : decode cX10_pounds 59 = .ok (.invokevirtual 206, 3) := by decide +kernel
theorem d_X10_pounds_62 : decode cX10_pounds 62 = .ok (.ireturn, 1) := by decide +kernel
set_option maxRecDepth 100000 in
theorem L_X10_pounds {p : Program} {l : Launch} {e : Env} {s : State} {m : MethodId} {args : Array Value} {below : List Frame} {meth : Method} {c : Code} {D : va_G} {ca : Nat → ClassId} {ad sx sy : Nat → Nat} {A : Nat → Prop} {Q : QT} (hl0 : l.stackTraces = false) (C0 : CX p s m args meth c cX10_pounds 4 yX10_pounds.cls D ca ad A) (hE : EX sx sy A s s.heap) (hr : meth.sig.returnType = (some .int)) (hno : ∀ x ∈ c.exceptionTable.toList, False) : R_X10_pounds (JW p l e { frames := 16, cells := 2, slots := 6 * 2, locals := 336 } s m args below meth c 4 D ca ad A (vx_MQ below (Qn D ca ad A Q) (Qx D ca ad A Q) args s 2 (6 * 2) A) (gl [(9, 1), (34, 1)]) (gl6 [(9, 1), (34, 1)]) true) Q := ⟨s_aln C0 (d_X10_pounds_0) (hgq rfl) (s_aln C0 (d_X10_pounds_1) (hgq rfl) (s_gm C0 (j := 1) (c0 := 10) rfl gX10 (by decide) rfl rfl wg394 (d_X10_pounds_2) (hgq rfl) (s_iln C0 (d_X10_pounds_5) (hgq rfl) (s_callVN C0 hE (c_X6_hasPerson l) wg811 wn808 wg810 ws36 wg3 ⟨by decide, by decide⟩ (by decide +kernel) (c0 := 6) rfl ⟨by decide, by decide⟩ ⟨by decide, by decide⟩ (d_X10_pounds_6) (fun x hx => (hno x hx).elim) ⟨by decide, by decide⟩ ⟨by decide, by decide⟩ (s_callV C0 hE (c_X10_needElement l hl0) wg815 wg812 wg814 ws37 wg1 ⟨by decide, by decide⟩ (by decide +kernel) (c0 := 10) rfl ⟨by decide, by decide⟩ ⟨by decide, by decide⟩ (d_X10_pounds_9) (fun x hx => (hno x hx).elim) ⟨by decide, by decide⟩ ⟨by decide, by decide⟩ (s_aln C0 (d_X10_pounds_12) (hgq rfl) (s_iln C0 (d_X10_pounds_13) (hgq rfl) (s_callS C0 hE (c_X10_isMinute l) wg931 wg929 wg930 wg1 ⟨by decide, by decide⟩ (by decide +kernel) ⟨by decide, by decide⟩ ⟨by decide, by decide⟩ (d_X10_pounds_14) (fun x hx => (hno x hx).elim) ⟨by decide, by decide⟩ ⟨by decide, by decide⟩ (s_zeq C0 (d_X10_pounds_17) (by decide) (hgq rfl) (hgq rfl) (fun _ _ _ h => h) (s_iln C0 (d_X10_pounds_20) (hgq rfl) (s_zeq C0 (d_X10_pounds_21) (by decide) (hgq rfl) (hgq rfl) (fun _ _ _ h => h) (s_iln C0 (d_X10_pounds_24) (hgq rfl) (s_ic C0 (d_X10_pounds_25) (hgq rfl) (s_cne C0 (d_X10_pounds_26) (by decide) (hgq rfl) (hgq rfl) (fun _ _ _ h => h) (fun _ _ _ h => h)) (okn rfl)))))))))))))),
  s_ic C0 (d_X10_pounds_29) (hgq rfl) (s_goto C0 (tgt := 34) (d_X10_pounds_30) (by decide) (hgq rfl) (fun _ _ _ h => h)) (okn rfl),
  s_ic C0 (d_X10_pounds_33) (hgq rfl) (fun _ _ _ h => h) (okn rfl),
  s_callV C0 hE (c_X10_needArgument l hl0) wg563 wg560 wg562 ws13 wg1 ⟨by decide, by decide⟩ (by decide +kernel) (c0 := 10) rfl ⟨by decide, by decide⟩ ⟨by decide, by decide⟩ (d_X10_pounds_34) (fun x hx => (hno x hx).elim) ⟨by decide, by decide⟩ ⟨by decide, by decide⟩ (s_iln C0 (d_X10_pounds_37) (hgq rfl) (s_zne C0 (d_X10_pounds_38) (by decide) (hgq rfl) (hgq rfl) (fun _ _ _ h => h) (s_aln C0 (d_X10_pounds_41) (hgq rfl) (s_callV C0 hE (c_X10_chronicled l) wg844 wg841 wg843 ws38 wg1 ⟨by decide, by decide⟩ (by decide +kernel) (c0 := 10) rfl ⟨by decide, by decide⟩ ⟨by decide, by decide⟩ (d_X10_pounds_42) (fun x hx => (hno x hx).elim) ⟨by decide, by decide⟩ ⟨by decide, by decide⟩ (s_iln C0 (d_X10_pounds_45) (hgq rfl) (s_iln C0 (d_X10_pounds_46) (hgq rfl) (s_callVN C0 hE (c_X3_poundsWith l) wg946 wn943 wg945 ws55 wg6 ⟨by decide, by decide⟩ (by decide +kernel) (c0 := 3) rfl ⟨by decide, by decide⟩ ⟨by decide, by decide⟩ (d_X10_pounds_47) (fun x hx => (hno x hx).elim) ⟨by decide, by decide⟩ ⟨by decide, by decide⟩ (s_goto C0 (tgt := 62) (d_X10_pounds_50) (by decide) (hgq rfl) (fun _ _ _ h => h))))))))),
  s_aln C0 (d_X10_pounds_53) (hgq rfl) (s_callV C0 hE (c_X10_chronicled l) wg844 wg841 wg843 ws38 wg1 ⟨by decide, by decide⟩ (by decide +kernel) (c0 := 10) rfl ⟨by decide, by decide⟩ ⟨by decide, by decide⟩ (d_X10_pounds_54) (fun x hx => (hno x hx).elim) ⟨by decide, by decide⟩ ⟨by decide, by decide⟩ (s_iln C0 (d_X10_pounds_57) (hgq rfl) (s_iln C0 (d_X10_pounds_58) (hgq rfl) (s_callVN C0 hE (c_X3_strengthOf l) wg951 wn948 wg950 ws56 wg6 ⟨by decide, by decide⟩ (by decide +kernel) (c0 := 3) rfl ⟨by decide, by decide⟩ ⟨by decide, by decide⟩ (d_X10_pounds_59) (fun x hx => (hno x hx).elim) ⟨by decide, by decide⟩ ⟨by decide, by decide⟩ (fun _ _ _ h => h))))),
  s_ri C0 hr (d_X10_pounds_62) ⟨by decide, by decide⟩⟩
theorem c_X10_pounds (l : Launch) (hl0 : l.stackTraces = false) : Ctr l yX10_pounds cX10_pounds 4 (some .int) 16 336 2 (fun sx => F_X10_pounds) := ctr_of (by decide) (gl [(9, 1), (34, 1)]) (gl6 [(9, 1), (34, 1)]) ⟨rfl, rfl⟩ (fun p e s m args below meth c D ca ad sx sy A Q as M C0 hE hr hno hF => P_X10_pounds (L_X10_pounds hl0 C0 hE hr hno) hF)
theorem wg345 : Cond.fieldLink "WeighedHall$Scales" 34 "WeighedHall$Scales" "persons" "I" ∈ GT := gt_mem 465 (by decide +kernel) rfl
theorem wg346 : Cond.fieldLink "WeighedHall$Scales" 9 "WeighedHall$Scales" "own" "[I" ∈ GT := gt_mem 466 (by decide +kernel) rfl
theorem wg347 : Cond.fieldLink "WeighedHall$Scales" 15 "WeighedHall$Scales" "sums" "[I" ∈ GT := gt_mem 467 (by decide +kernel) rfl
theorem wn476 : Cond.methodLinkNest "WeighedHall$Scales" 39 ⟨"WeighedHall", "lowestOf", "(I)I"⟩ "WeighedHall" ∈ NT := nt_mem 476 (by decide +kernel) rfl
theorem d_X7_weighPersons_0 : decode cX7_weighPersons 0 = .ok (.aload_n 0, 1) := by decide +kernel
theorem d_X7_weighPersons_1 : decode cX7_weighPersons 1 = .ok (.aload_n 1, 1) := by decide +kernel
theorem d_X7_weighPersons_2 : decode cX7_weighPersons 2 = .ok (.invokevirtual 21, 3) := by decide +kernel
theorem d_X7_weighPersons_5 : decode cX7_weighPersons 5 = .ok (.putfield 27, 3) := by decide +kernel
theorem d_X7_weighPersons_8 : decode cX7_weighPersons 8 = .ok (.aload_n 0, 1) := by decide +kernel
theorem d_X7_weighPersons_9 : decode cX7_weighPersons 9 = .ok (.aload_n 1, 1) := by decide +kernel
theorem d_X7_weighPersons_10 : decode cX7_weighPersons 10 = .ok (.getfield 31, 3) := by decide +kernel
theorem d_X7_weighPersons_13 : decode cX7_weighPersons 13 = .ok (.putfield 34, 3) := by decide +kernel
theorem d_X7_weighPersons_16 : decode cX7_weighPersons 16 = .ok (.iconst 0, 1) := by decide +kernel
theorem d_X7_weighPersons_17 : decode cX7_weighPersons 17 = .ok (.istore_n 2, 1) := by decide +kernel
theorem d_X7_weighPersons_18 : decode cX7_weighPersons 18 = .ok (.iload_n 2, 1) := by decide +kernel
theorem d_X7_weighPersons_19 : decode cX7_weighPersons 19 = .ok (.aload_n 0, 1) := by decide +kernel
theorem d_X7_weighPersons_20 : decode cX7_weighPersons 20 = .ok (.getfield 34, 3) := by decide +kernel
theorem d_X7_weighPersons_23 : decode cX7_weighPersons 23 = .ok (.if_icmp .ge 20, 3) := by decide +kernel
theorem d_X7_weighPersons_26 : decode cX7_weighPersons 26 = .ok (.aload_n 0, 1) := by decide +kernel
theorem d_X7_weighPersons_27 : decode cX7_weighPersons 27 = .ok (.getfield 9, 3) := by decide +kernel
theorem d_X7_weighPersons_30 : decode cX7_weighPersons 30 = .ok (.iload_n 2, 1) := by decide +kernel
theorem d_X7_weighPersons_31 : decode cX7_weighPersons 31 = .ok (.aload_n 1, 1) := by decide +kernel
theorem d_X7_weighPersons_32 : decode cX7_weighPersons 32 = .ok (.iload_n 2, 1) := by decide +kernel
theorem d_X7_weighPersons_33 : decode cX7_weighPersons 33 = .ok (.invokevirtual 35, 3) := by decide +kernel
theorem d_X7_weighPersons_36 : decode cX7_weighPersons 36 = .ok (.iastore, 1) := by decide +kernel
theorem d_X7_weighPersons_37 : decode cX7_weighPersons 37 = .ok (.iinc 2 1, 3) := by decide +kernel
theorem d_X7_weighPersons_40 : decode cX7_weighPersons 40 = .ok (.goto (-22), 3) := by decide +kernel
theorem d_X7_weighPersons_43 : decode cX7_weighPersons 43 = .ok (.aload_n 0, 1) := by decide +kernel
theorem d_X7_weighPersons_44 : decode cX7_weighPersons 44 = .ok (.getfield 15, 3) := by decide +kernel
theorem d_X7_weighPersons_47 : decode cX7_weighPersons 47 = .ok (.iconst 0, 1) := by decide +kernel
theorem d_X7_weighPersons_48 : decode cX7_weighPersons 48 = .ok (.iconst 0, 1) := by decide +kernel
theorem d_X7_weighPersons_49 : decode cX7_weighPersons 49 = .ok (.iastore, 1) := by decide +kernel
theorem d_X7_weighPersons_50 : decode cX7_weighPersons 50 = .ok (.iconst 1, 1) := by decide +kernel
theorem d_X7_weighPersons_51 : decode cX7_weighPersons 51 = .ok (.istore_n 2, 1) := by decide +kernel
theorem d_X7_weighPersons_52 : decode cX7_weighPersons 52 = .ok (.iload_n 2, 1) := by decide +kernel
theorem d_X7_weighPersons_53 : decode cX7_weighPersons 53 = .ok (.iconst 1, 1) := by decide +kernel
theorem d_X7_weighPersons_54 : decode cX7_weighPersons 54 = .ok (.aload_n 0, 1) := by decide +kernel
theorem d_X7_weighPersons_55 : decode cX7_weighPersons 55 = .ok (.getfield 34, 3) := by decide +kernel
theorem d_X7_weighPersons_58 : decode cX7_weighPersons 58 = .ok (.ishl, 1) := by decide +kernel
theorem d_X7_weighPersons_59 : decode cX7_weighPersons 59 = .ok (.if_icmp .ge 35, 3) := by decide +kernel
theorem d_X7_weighPersons_62 : decode cX7_weighPersons 62 = .ok (.aload_n 0, 1) := by decide +kernel
theorem d_X7_weighPersons_63 : decode cX7_weighPersons 63 = .ok (.getfield 15, 3) := by decide +kernel
theorem d_X7_weighPersons_66 : decode cX7_weighPersons 66 = .ok (.iload_n 2, 1) := by decide +kernel
theorem d_X7_weighPersons_67 : decode cX7_weighPersons 67 = .ok (.aload_n 0, 1) := by decide +kernel
theorem d_X7_weighPersons_68 : decode cX7_weighPersons 68 = .ok (.getfield 15, 3) := by decide +kernel
theorem d_X7_weighPersons_71 : decode cX7_weighPersons 71 = .ok (.iload_n 2, 1) := by decide +kernel
theorem d_X7_weighPersons_72 : decode cX7_weighPersons 72 = .ok (.iload_n 2, 1) := by decide +kernel
theorem d_X7_weighPersons_73 : decode cX7_weighPersons 73 = .ok (.iconst 1, 1) := by decide +kernel
theorem d_X7_weighPersons_74 : decode cX7_weighPersons 74 = .ok (.isub, 1) := by decide +kernel
theorem d_X7_weighPersons_75 : decode cX7_weighPersons 75 = .ok (.iand, 1) := by decide +kernel
theorem d_X7_weighPersons_76 : decode cX7_weighPersons 76 = .ok (.iaload, 1) := by decide +kernel
theorem d_X7_weighPersons_77 : decode cX7_weighPersons 77 = .ok (.aload_n 0, 1) := by decide +kernel
theorem d_X7_weighPersons_78 : decode cX7_weighPersons 78 = .ok (.getfield 9, 3) := by decide +kernel
theorem d_X7_weighPersons_81 : decode cX7_weighPersons 81 = .ok (.iload_n 2, 1) := by decide +kernel
theorem d_X7_weighPersons_82 : decode cX7_weighPersons 82 = .ok (.invokestatic 39, 3) := by decide +kernel
theorem d_X7_weighPersons_85 : decode cX7_weighPersons 85 = .ok (.iaload, 1) := by decide +kernel
theorem d_X7_weighPersons_86 : decode cX7_weighPersons 86 = .ok (.iadd, 1) := by decide +kernel
theorem d_X7_weighPersons_87 : decode cX7_weighPersons 87 = .ok (.iastore, 1) := by decide +kernel
theorem d_X7_weighPersons_88 : decode cX7_weighPersons 88 = .ok (.iinc 2 1, 3) := by decide +kernel
theorem d_X7_weighPersons_91 : decode cX7_weighPersons 91 = .ok (.goto (-39), 3) := by decide +kernel
theorem d_X7_weighPersons_94 : decode cX7_weighPersons 94 = .ok (.return_, 1) := by decide +kernel
set_option maxRecDepth 100000 in
theorem L_X7_weighPersons {p : Program} {l : Launch} {e : Env} {s : State} {m : MethodId} {args : Array Value} {below : List Frame} {meth : Method} {c : Code} {D : va_G} {ca : Nat → ClassId} {ad sx sy : Nat → Nat} {A : Nat → Prop} {Q : QT} (C0 : CX p s m args meth c cX7_weighPersons 3 yX7_weighPersons.cls D ca ad A) (hE : EX sx sy A s s.heap) (hr : meth.sig.returnType = none) (hno : ∀ x ∈ c.exceptionTable.toList, False) : R_X7_weighPersons (JW p l e { frames := 12, cells := 0, slots := 6 * 0, locals := 240 } s m args below meth c 3 D ca ad A (vx_MQ below (Qn D ca ad A Q) (Qx D ca ad A Q) args s 0 (6 * 0) A) gz gz true) Q := ⟨s_aln C0 (d_X7_weighPersons_0) hgz (s_aln C0 (d_X7_weighPersons_1) hgz (s_callVN C0 hE (c_X6_allPounds l) wg471 wn468 wg470 ws2 wg3 ⟨by decide, by decide⟩ (by decide +kernel) (c0 := 6) rfl ⟨by decide, by decide⟩ ⟨by decide, by decide⟩ (d_X7_weighPersons_2) (fun x hx => (hno x hx).elim) ⟨by decide, by decide⟩ ⟨by decide, by decide⟩ (s_pi C0 (j := 0) (c0 := 7) rfl gX7 tyX7_ok nmX7 (by decide) rfl (by decide) rfl rfl wg344 (d_X7_weighPersons_5) hgz (s_aln C0 (d_X7_weighPersons_8) hgz (s_aln C0 (d_X7_weighPersons_9) hgz (s_giN C0 (j := 0) (c0 := 6) rfl gX6 (by decide) rfl (by decide) wn72 (d_X7_weighPersons_10) hgz (s_pi C0 (j := 1) (c0 := 7) rfl gX7 tyX7_ok nmX7 (by decide) rfl (by decide) rfl rfl wg345 (d_X7_weighPersons_13) hgz (s_ic C0 (d_X7_weighPersons_16) hgz (s_isn C0 (d_X7_weighPersons_17) hgz (fun _ _ _ h => h)) (okn rfl))))))))),
  s_iln C0 (d_X7_weighPersons_18) hgz (s_aln C0 (d_X7_weighPersons_19) hgz (s_gi C0 (j := 1) (c0 := 7) rfl gX7 (by decide) rfl (by decide) wg345 (d_X7_weighPersons_20) hgz (s_cge C0 (d_X7_weighPersons_23) (by decide) hgz hgz (fun _ _ _ h => h) (s_aln C0 (d_X7_weighPersons_26) hgz (s_gr C0 (j := 2) (c0 := 7) rfl gX7 (by decide) rfl rfl wg346 (d_X7_weighPersons_27) hgz (s_iln C0 (d_X7_weighPersons_30) hgz (s_aln C0 (d_X7_weighPersons_31) hgz (s_iln C0 (d_X7_weighPersons_32) hgz (s_callVN C0 hE (c_X6_ownPounds l) wg475 wn472 wg474 ws3 wg3 ⟨by decide, by decide⟩ (by decide +kernel) (c0 := 6) rfl ⟨by decide, by decide⟩ ⟨by decide, by decide⟩ (d_X7_weighPersons_33) (fun x hx => (hno x hx).elim) ⟨by decide, by decide⟩ ⟨by decide, by decide⟩ (s_iax C0 (d_X7_weighPersons_36) hgz (s_inc C0 (d_X7_weighPersons_37) hgz (s_goto C0 (tgt := 18) (d_X7_weighPersons_40) (by decide) hgz (fun _ _ _ h => h))))))))))))),
  s_aln C0 (d_X7_weighPersons_43) hgz (s_gr C0 (j := 3) (c0 := 7) rfl gX7 (by decide) rfl rfl wg347 (d_X7_weighPersons_44) hgz (s_ic C0 (d_X7_weighPersons_47) hgz (s_ic C0 (d_X7_weighPersons_48) hgz (s_iax C0 (d_X7_weighPersons_49) hgz (s_ic C0 (d_X7_weighPersons_50) hgz (s_isn C0 (d_X7_weighPersons_51) hgz (fun _ _ _ h => h)) (okn rfl))) (okn rfl)) (okn rfl))),
  s_iln C0 (d_X7_weighPersons_52) hgz (s_ic C0 (d_X7_weighPersons_53) hgz (s_aln C0 (d_X7_weighPersons_54) hgz (s_gi C0 (j := 1) (c0 := 7) rfl gX7 (by decide) rfl (by decide) wg345 (d_X7_weighPersons_55) hgz (s_shl C0 (d_X7_weighPersons_58) hgz (s_cge C0 (d_X7_weighPersons_59) (by decide) hgz hgz (fun _ _ _ h => h) (s_aln C0 (d_X7_weighPersons_62) hgz (s_gr C0 (j := 3) (c0 := 7) rfl gX7 (by decide) rfl rfl wg347 (d_X7_weighPersons_63) hgz (s_iln C0 (d_X7_weighPersons_66) hgz (s_aln C0 (d_X7_weighPersons_67) hgz (s_gr C0 (j := 3) (c0 := 7) rfl gX7 (by decide) rfl rfl wg347 (d_X7_weighPersons_68) hgz (s_iln C0 (d_X7_weighPersons_71) hgz (s_iln C0 (d_X7_weighPersons_72) hgz (s_ic C0 (d_X7_weighPersons_73) hgz (s_sub C0 (d_X7_weighPersons_74) hgz (s_and C0 (d_X7_weighPersons_75) hgz (s_ia C0 (d_X7_weighPersons_76) hgz (s_aln C0 (d_X7_weighPersons_77) hgz (s_gr C0 (j := 2) (c0 := 7) rfl gX7 (by decide) rfl rfl wg346 (d_X7_weighPersons_78) hgz (s_iln C0 (d_X7_weighPersons_81) hgz (s_callSN C0 hE (c_X10_lowestOf l) wg478 wn476 wg477 wg1 ⟨by decide, by decide⟩ (by decide +kernel) ⟨by decide, by decide⟩ ⟨by decide, by decide⟩ (d_X7_weighPersons_82) (fun x hx => (hno x hx).elim) ⟨by decide, by decide⟩ ⟨by decide, by decide⟩ (s_ia C0 (d_X7_weighPersons_85) hgz (s_add C0 (d_X7_weighPersons_86) hgz (s_iax C0 (d_X7_weighPersons_87) hgz (s_inc C0 (d_X7_weighPersons_88) hgz (s_goto C0 (tgt := 52) (d_X7_weighPersons_91) (by decide) hgz (fun _ _ _ h => h))))))))))))) (okn rfl))))))))))))) (okn rfl)),
  s_rv C0 hr (d_X7_weighPersons_94) ⟨by decide, by decide⟩⟩
theorem c_X7_weighPersons (l : Launch) : Ctr l yX7_weighPersons cX7_weighPersons 3 none 12 240 0 (fun sx => (nf G_X7_weighPersons)) := ctr_of (by decide) gz gz ⟨rfl, rfl⟩ (fun p e s m args below meth c D ca ad sx sy A Q as M C0 hE hr hno hF => P_X7_weighPersons (L_X7_weighPersons C0 hE hr hno) hF)
theorem d_X7_swingsOf_0 : decode cX7_swingsOf 0 = .ok (.iload_n 1, 1) := by decide +kernel
theorem d_X7_swingsOf_1 : decode cX7_swingsOf 1 = .ok (.ifCond .lt 11, 3) := by decide +kernel
theorem d_X7_swingsOf_4 : decode cX7_swingsOf 4 = .ok (.iload_n 1, 1) := by decide +kernel
theorem d_X7_swingsOf_5 : decode cX7_swingsOf 5 = .ok (.aload_n 0, 1) := by decide +kernel
theorem d_X7_swingsOf_6 : decode cX7_swingsOf 6 = .ok (.getfield 34, 3) := by decide +kernel
theorem d_X7_swingsOf_9 : decode cX7_swingsOf 9 = .ok (.if_icmp .lt 5, 3) := by decide +kernel
theorem d_X7_swingsOf_12 : decode cX7_swingsOf 12 = .ok (.iconst 0, 1) := by decide +kernel
theorem d_X7_swingsOf_13 : decode cX7_swingsOf 13 = .ok (.ireturn, 1) := by decide +kernel
theorem d_X7_swingsOf_14 : decode cX7_swingsOf 14 = .ok (.iconst 0, 1) := by decide +kernel
theorem d_X7_swingsOf_15 : decode cX7_swingsOf 15 = .ok (.istore_n 2, 1) := by decide +kernel
theorem d_X7_swingsOf_16 : decode cX7_swingsOf 16 = .ok (.iconst 0, 1) := by decide +kernel
theorem d_X7_swingsOf_17 : decode cX7_swingsOf 17 = .ok (.istore_n 3, 1) := by decide +kernel
theorem d_X7_swingsOf_18 : decode cX7_swingsOf 18 = .ok (.iload_n 3, 1) := by decide +kernel
theorem d_X7_swingsOf_19 : decode cX7_swingsOf 19 = .ok (.iconst 1, 1) := by decide +kernel
theorem d_X7_swingsOf_20 : decode cX7_swingsOf 20 = .ok (.aload_n 0, 1) := by decide +kernel
theorem d_X7_swingsOf_21 : decode cX7_swingsOf 21 = .ok (.getfield 34, 3) := by decide +kernel
theorem d_X7_swingsOf_24 : decode cX7_swingsOf 24 = .ok (.ishl, 1) := by decide +kernel
theorem d_X7_swingsOf_25 : decode cX7_swingsOf 25 = .ok (.if_icmp .ge 53, 3) := by decide +kernel
theorem d_X7_swingsOf_28 : decode cX7_swingsOf 28 = .ok (.iload_n 1, 1) := by decide +kernel
theorem d_X7_swingsOf_29 : decode cX7_swingsOf 29 = .ok (.iload_n 3, 1) := by decide +kernel
theorem d_X7_swingsOf_30 : decode cX7_swingsOf 30 = .ok (.invokestatic 42, 3) := by decide +kernel
theorem d_X7_swingsOf_33 : decode cX7_swingsOf 33 = .ok (.ifCond .ne 39, 3) := by decide +kernel
theorem d_X7_swingsOf_36 : decode cX7_swingsOf 36 = .ok (.aload_n 0, 1) := by decide +kernel
theorem d_X7_swingsOf_37 : decode cX7_swingsOf 37 = .ok (.aload_n 0, 1) := by decide +kernel
theorem d_X7_swingsOf_38 : decode cX7_swingsOf 38 = .ok (.getfield 15, 3) := by decide +kernel
theorem d_X7_swingsOf_41 : decode cX7_swingsOf 41 = .ok (.iload_n 3, 1) := by decide +kernel
theorem d_X7_swingsOf_42 : decode cX7_swingsOf 42 = .ok (.iaload, 1) := by decide +kernel
theorem d_X7_swingsOf_43 : decode cX7_swingsOf 43 = .ok (.invokevirtual 46, 3) := by decide +kernel
theorem d_X7_swingsOf_46 : decode cX7_swingsOf 46 = .ok (.ifCond .ne 26, 3) := by decide +kernel
theorem d_X7_swingsOf_49 : decode cX7_swingsOf 49 = .ok (.aload_n 0, 1) := by decide +kernel
theorem d_X7_swingsOf_50 : decode cX7_swingsOf 50 = .ok (.aload_n 0, 1) := by decide +kernel
theorem d_X7_swingsOf_51 : decode cX7_swingsOf 51 = .ok (.getfield 15, 3) := by decide +kernel
theorem d_X7_swingsOf_54 : decode cX7_swingsOf 54 = .ok (.iload_n 3, 1) := by decide +kernel
theorem d_X7_swingsOf_55 : decode cX7_swingsOf 55 = .ok (.iaload, 1) := by decide +kernel
theorem d_X7_swingsOf_56 : decode cX7_swingsOf 56 = .ok (.aload_n 0, 1) := by decide +kernel
theorem d_X7_swingsOf_57 : decode cX7_swingsOf 57 = .ok (.getfield 9, 3) := by decide +kernel
theorem d_X7_swingsOf_60 : decode cX7_swingsOf 60 = .ok (.iload_n 1, 1) := by decide +kernel
theorem d_X7_swingsOf_61 : decode cX7_swingsOf 61 = .ok (.iaload, 1) := by decide +kernel
theorem d_X7_swingsOf_62 : decode cX7_swingsOf 62 = .ok (.iadd, 1) := by decide +kernel
theorem d_X7_swingsOf_63 : decode cX7_swingsOf 63 = .ok (.invokevirtual 46, 3) := by decide +kernel
theorem d_X7_swingsOf_66 : decode cX7_swingsOf 66 = .ok (.ifCond .eq 6, 3) := by decide +kernel
theorem d_X7_swingsOf_69 : decode cX7_swingsOf 69 = .ok (.iinc 2 1, 3) := by decide +kernel
theorem d_X7_swingsOf_72 : decode cX7_swingsOf 72 = .ok (.iinc 3 1, 3) := by decide +kernel
theorem d_X7_swingsOf_75 : decode cX7_swingsOf 75 = .ok (.goto (-57), 3) := by decide +kernel
theorem d_X7_swingsOf_78 : decode cX7_swingsOf 78 = .ok (.iload_n 2, 1) := by decide +kernel
theorem d_X7_swingsOf_79 : decode cX7_swingsOf 79 = .ok (.ireturn, 1) := by decide +kernel
set_option maxRecDepth 100000 in
theorem L_X7_swingsOf {p : Program} {l : Launch} {e : Env} {s : State} {m : MethodId} {args : Array Value} {below : List Frame} {meth : Method} {c : Code} {D : va_G} {ca : Nat → ClassId} {ad sx sy : Nat → Nat} {A : Nat → Prop} {Q : QT} (C0 : CX p s m args meth c cX7_swingsOf 4 yX7_swingsOf.cls D ca ad A) (hE : EX sx sy A s s.heap) (hr : meth.sig.returnType = (some .int)) (hno : ∀ x ∈ c.exceptionTable.toList, False) : R_X7_swingsOf (JW p l e { frames := 11, cells := 0, slots := 6 * 0, locals := 221 } s m args below meth c 4 D ca ad A (vx_MQ below (Qn D ca ad A Q) (Qx D ca ad A Q) args s 0 (6 * 0) A) gz gz true) Q := ⟨s_iln C0 (d_X7_swingsOf_0) hgz (s_zlt C0 (d_X7_swingsOf_1) (by decide) hgz hgz (fun _ _ _ h => h) (s_iln C0 (d_X7_swingsOf_4) hgz (s_aln C0 (d_X7_swingsOf_5) hgz (s_gi C0 (j := 1) (c0 := 7) rfl gX7 (by decide) rfl (by decide) wg345 (d_X7_swingsOf_6) hgz (s_clt C0 (d_X7_swingsOf_9) (by decide) hgz hgz (fun _ _ _ h => h) (fun _ _ _ h => h)))))),
  s_ic C0 (d_X7_swingsOf_12) hgz (s_ri C0 hr (d_X7_swingsOf_13) ⟨by decide, by decide⟩) (okn rfl),
  s_ic C0 (d_X7_swingsOf_14) hgz (s_isn C0 (d_X7_swingsOf_15) hgz (s_ic C0 (d_X7_swingsOf_16) hgz (s_isn C0 (d_X7_swingsOf_17) hgz (fun _ _ _ h => h)) (okn rfl))) (okn rfl),
  s_iln C0 (d_X7_swingsOf_18) hgz (s_ic C0 (d_X7_swingsOf_19) hgz (s_aln C0 (d_X7_swingsOf_20) hgz (s_gi C0 (j := 1) (c0 := 7) rfl gX7 (by decide) rfl (by decide) wg345 (d_X7_swingsOf_21) hgz (s_shl C0 (d_X7_swingsOf_24) hgz (s_cge C0 (d_X7_swingsOf_25) (by decide) hgz hgz (fun _ _ _ h => h) (s_iln C0 (d_X7_swingsOf_28) hgz (s_iln C0 (d_X7_swingsOf_29) hgz (s_callSN C0 hE (c_X10_isIn l) wg491 wn489 wg490 wg1 ⟨by decide, by decide⟩ (by decide +kernel) ⟨by decide, by decide⟩ ⟨by decide, by decide⟩ (d_X7_swingsOf_30) (fun x hx => (hno x hx).elim) ⟨by decide, by decide⟩ ⟨by decide, by decide⟩ (s_zne C0 (d_X7_swingsOf_33) (by decide) hgz hgz (fun _ _ _ h => h) (s_aln C0 (d_X7_swingsOf_36) hgz (s_aln C0 (d_X7_swingsOf_37) hgz (s_gr C0 (j := 3) (c0 := 7) rfl gX7 (by decide) rfl rfl wg347 (d_X7_swingsOf_38) hgz (s_iln C0 (d_X7_swingsOf_41) hgz (s_ia C0 (d_X7_swingsOf_42) hgz (s_callV C0 hE (c_X7_isMore l) wg495 wg492 wg494 ws5 wg10 ⟨by decide, by decide⟩ (by decide +kernel) (c0 := 7) rfl ⟨by decide, by decide⟩ ⟨by decide, by decide⟩ (d_X7_swingsOf_43) (fun x hx => (hno x hx).elim) ⟨by decide, by decide⟩ ⟨by decide, by decide⟩ (s_zne C0 (d_X7_swingsOf_46) (by decide) hgz hgz (fun _ _ _ h => h) (s_aln C0 (d_X7_swingsOf_49) hgz (s_aln C0 (d_X7_swingsOf_50) hgz (s_gr C0 (j := 3) (c0 := 7) rfl gX7 (by decide) rfl rfl wg347 (d_X7_swingsOf_51) hgz (s_iln C0 (d_X7_swingsOf_54) hgz (s_ia C0 (d_X7_swingsOf_55) hgz (s_aln C0 (d_X7_swingsOf_56) hgz (s_gr C0 (j := 2) (c0 := 7) rfl gX7 (by decide) rfl rfl wg346 (d_X7_swingsOf_57) hgz (s_iln C0 (d_X7_swingsOf_60) hgz (s_ia C0 (d_X7_swingsOf_61) hgz (s_add C0 (d_X7_swingsOf_62) hgz (s_callV C0 hE (c_X7_isMore l) wg495 wg492 wg494 ws5 wg10 ⟨by decide, by decide⟩ (by decide +kernel) (c0 := 7) rfl ⟨by decide, by decide⟩ ⟨by decide, by decide⟩ (d_X7_swingsOf_63) (fun x hx => (hno x hx).elim) ⟨by decide, by decide⟩ ⟨by decide, by decide⟩ (s_zeq C0 (d_X7_swingsOf_66) (by decide) hgz hgz (fun _ _ _ h => h) (s_inc C0 (d_X7_swingsOf_69) hgz (fun _ _ _ h => h))))))))))))))))))))))))))))) (okn rfl)),
  s_inc C0 (d_X7_swingsOf_72) hgz (s_goto C0 (tgt := 18) (d_X7_swingsOf_75) (by decide) hgz (fun _ _ _ h => h)),
  s_iln C0 (d_X7_swingsOf_78) hgz (s_ri C0 hr (d_X7_swingsOf_79) ⟨by decide, by decide⟩)⟩
theorem c_X7_swingsOf (l : Launch) : Ctr l yX7_swingsOf cX7_swingsOf 4 (some .int) 11 221 0 (fun sx => (nf G_X7_swingsOf)) := ctr_of (by decide) gz gz ⟨rfl, rfl⟩ (fun p e s m args below meth c D ca ad sx sy A Q as M C0 hE hr hno hF => P_X7_swingsOf (L_X7_swingsOf C0 hE hr hno) hF)
theorem wg488 : Cond.code ⟨"WeighedHall$Scales", "swingsOf", "(I)I"⟩ prog_9_method_3_code 4 (Option.some .int) ∈ GT := gt_mem 608 (by decide +kernel) rfl
theorem wn485 : Cond.methodLinkNest "WeighedHall" 263 ⟨"WeighedHall$Scales", "swingsOf", "(I)I"⟩ "WeighedHall" ∈ NT := nt_mem 485 (by decide +kernel) rfl
theorem wg487 : Cond.instanceMethod ⟨"WeighedHall$Scales", "swingsOf", "(I)I"⟩ ∈ GT := gt_mem 607 (by decide +kernel) rfl
theorem ws4 : Cond.selects "WeighedHall$Scales" ⟨"WeighedHall$Scales", "swingsOf", "(I)I"⟩ ⟨"WeighedHall$Scales", "swingsOf", "(I)I"⟩ ∈ GT := gt_mem 4 (by decide +kernel) rfl
theorem wg467 : Cond.code ⟨"WeighedHall$Scales", "weighPersons", "(LWeighedHall$Plan;)V"⟩ prog_9_method_2_code 3 (Option.none : Option FieldType) ∈ GT := gt_mem 587 (by decide +kernel) rfl
theorem wn464 : Cond.methodLinkNest "WeighedHall" 259 ⟨"WeighedHall$Scales", "weighPersons", "(LWeighedHall$Plan;)V"⟩ "WeighedHall" ∈ NT := nt_mem 464 (by decide +kernel) rfl
theorem wg466 : Cond.instanceMethod ⟨"WeighedHall$Scales", "weighPersons", "(LWeighedHall$Plan;)V"⟩ ∈ GT := gt_mem 586 (by decide +kernel) rfl
theorem ws1 : Cond.selects "WeighedHall$Scales" ⟨"WeighedHall$Scales", "weighPersons", "(LWeighedHall$Plan;)V"⟩ ⟨"WeighedHall$Scales", "weighPersons", "(LWeighedHall$Plan;)V"⟩ ∈ GT := gt_mem 1 (by decide +kernel) rfl
theorem d_X10_power_0 : decode cX10_power 0 = .ok (.aload_n 0, 1) := by decide +kernel
theorem d_X10_power_1 : decode cX10_power 1 = .ok (.aload_n 0, 1) := by decide +kernel
theorem d_X10_power_2 : decode cX10_power 2 = .ok (.getfield 19, 3) := by decide +kernel
theorem d_X10_power_5 : decode cX10_power 5 = .ok (.iload_n 1, 1) := by decide +kernel
theorem d_X10_power_6 : decode cX10_power 6 = .ok (.invokevirtual 156, 3) := by decide +kernel
theorem d_X10_power_9 : decode cX10_power 9 = .ok (.invokevirtual 160, 3) := by decide +kernel
theorem d_X10_power_12 : decode cX10_power 12 = .ok (.aload_n 0, 1) := by decide +kernel
theorem d_X10_power_13 : decode cX10_power 13 = .ok (.getfield 85, 3) := by decide +kernel
theorem d_X10_power_16 : decode cX10_power 16 = .ok (.aload_n 0, 1) := by decide +kernel
theorem d_X10_power_17 : decode cX10_power 17 = .ok (.getfield 19, 3) := by decide +kernel
theorem d_X10_power_20 : decode cX10_power 20 = .ok (.invokevirtual 259, 3) := by decide +kernel
theorem d_X10_power_23 : decode cX10_power 23 = .ok (.aload_n 0, 1) := by decide +kernel
theorem d_X10_power_24 : decode cX10_power 24 = .ok (.getfield 85, 3) := by decide +kernel
theorem d_X10_power_27 : decode cX10_power 27 = .ok (.iload_n 1, 1) := by decide +kernel
theorem d_X10_power_28 : decode cX10_power 28 = .ok (.invokevirtual 263, 3) := by decide +kernel
theorem d_X10_power_31 : decode cX10_power 31 = .ok (.ireturn, 1) := by decide +kernel
set_option maxRecDepth 100000 in
theorem L_X10_power {p : Program} {l : Launch} {e : Env} {s : State} {m : MethodId} {args : Array Value} {below : List Frame} {meth : Method} {c : Code} {D : va_G} {ca : Nat → ClassId} {ad sx sy : Nat → Nat} {A : Nat → Prop} {Q : QT} (hl0 : l.stackTraces = false) (C0 : CX p s m args meth c cX10_power 2 yX10_power.cls D ca ad A) (hE : EX sx sy A s s.heap) (hr : meth.sig.returnType = (some .int)) (hno : ∀ x ∈ c.exceptionTable.toList, False) : R_X10_power (JW p l e { frames := 13, cells := 1, slots := 6 * 1, locals := 262 } s m args below meth c 2 D ca ad A (vx_MQ below (Qn D ca ad A Q) (Qx D ca ad A Q) args s 1 (6 * 1) A) (gl [(9, 1)]) (gl6 [(9, 1)]) true) Q := s_aln C0 (d_X10_power_0) (hgq rfl) (s_aln C0 (d_X10_power_1) (hgq rfl) (s_gm C0 (j := 1) (c0 := 10) rfl gX10 (by decide) rfl rfl wg394 (d_X10_power_2) (hgq rfl) (s_iln C0 (d_X10_power_5) (hgq rfl) (s_callVN C0 hE (c_X6_hasPerson l) wg811 wn808 wg810 ws36 wg3 ⟨by decide, by decide⟩ (by decide +kernel) (c0 := 6) rfl ⟨by decide, by decide⟩ ⟨by decide, by decide⟩ (d_X10_power_6) (fun x hx => (hno x hx).elim) ⟨by decide, by decide⟩ ⟨by decide, by decide⟩ (s_callV C0 hE (c_X10_needElement l hl0) wg815 wg812 wg814 ws37 wg1 ⟨by decide, by decide⟩ (by decide +kernel) (c0 := 10) rfl ⟨by decide, by decide⟩ ⟨by decide, by decide⟩ (d_X10_power_9) (fun x hx => (hno x hx).elim) ⟨by decide, by decide⟩ ⟨by decide, by decide⟩ (s_aln C0 (d_X10_power_12) (hgq rfl) (s_gr C0 (j := 14) (c0 := 10) rfl gX10 (by decide) rfl rfl wg407 (d_X10_power_13) (hgq rfl) (s_aln C0 (d_X10_power_16) (hgq rfl) (s_gm C0 (j := 1) (c0 := 10) rfl gX10 (by decide) rfl rfl wg394 (d_X10_power_17) (hgq rfl) (s_callVN C0 hE (c_X7_weighPersons l) wg467 wn464 wg466 ws1 wg10 ⟨by decide, by decide⟩ (by decide +kernel) (c0 := 7) rfl ⟨by decide, by decide⟩ ⟨by decide, by decide⟩ (d_X10_power_20) (fun x hx => (hno x hx).elim) ⟨by decide, by decide⟩ ⟨by decide, by decide⟩ (s_aln C0 (d_X10_power_23) (hgq rfl) (s_gr C0 (j := 14) (c0 := 10) rfl gX10 (by decide) rfl rfl wg407 (d_X10_power_24) (hgq rfl) (s_iln C0 (d_X10_power_27) (hgq rfl) (s_callVN C0 hE (c_X7_swingsOf l) wg488 wn485 wg487 ws4 wg10 ⟨by decide, by decide⟩ (by decide +kernel) (c0 := 7) rfl ⟨by decide, by decide⟩ ⟨by decide, by decide⟩ (d_X10_power_28) (fun x hx => (hno x hx).elim) ⟨by decide, by decide⟩ ⟨by decide, by decide⟩ (s_ri C0 hr (d_X10_power_31) ⟨by decide, by decide⟩)))))))))))))))
theorem c_X10_power (l : Launch) (hl0 : l.stackTraces = false) : Ctr l yX10_power cX10_power 2 (some .int) 13 262 1 (fun sx => F_X10_power) := ctr_of (by decide) (gl [(9, 1)]) (gl6 [(9, 1)]) ⟨rfl, rfl⟩ (fun p e s m args below meth c D ca ad sx sy A Q as M C0 hE hr hno hF => P_X10_power (L_X10_power hl0 C0 hE hr hno) hF)
theorem d_X10_powers_0 : decode cX10_powers 0 = .ok (.aload_n 0, 1) := by decide +kernel
theorem d_X10_powers_1 : decode cX10_powers 1 = .ok (.getfield 85, 3) := by decide +kernel
theorem d_X10_powers_4 : decode cX10_powers 4 = .ok (.aload_n 0, 1) := by decide +kernel
theorem d_X10_powers_5 : decode cX10_powers 5 = .ok (.getfield 19, 3) := by decide +kernel
theorem d_X10_powers_8 : decode cX10_powers 8 = .ok (.invokevirtual 259, 3) := by decide +kernel
theorem d_X10_powers_11 : decode cX10_powers 11 = .ok (.iconst 0, 1) := by decide +kernel
theorem d_X10_powers_12 : decode cX10_powers 12 = .ok (.istore_n 1, 1) := by decide +kernel
theorem d_X10_powers_13 : decode cX10_powers 13 = .ok (.iconst 0, 1) := by decide +kernel
theorem d_X10_powers_14 : decode cX10_powers 14 = .ok (.istore_n 2, 1) := by decide +kernel
theorem d_X10_powers_15 : decode cX10_powers 15 = .ok (.iload_n 2, 1) := by decide +kernel
theorem d_X10_powers_16 : decode cX10_powers 16 = .ok (.aload_n 0, 1) := by decide +kernel
theorem d_X10_powers_17 : decode cX10_powers 17 = .ok (.getfield 19, 3) := by decide +kernel
theorem d_X10_powers_20 : decode cX10_powers 20 = .ok (.getfield 132, 3) := by decide +kernel
theorem d_X10_powers_23 : decode cX10_powers 23 = .ok (.if_icmp .ge 20, 3) := by decide +kernel
theorem d_X10_powers_26 : decode cX10_powers 26 = .ok (.iload_n 1, 1) := by decide +kernel
theorem d_X10_powers_27 : decode cX10_powers 27 = .ok (.aload_n 0, 1) := by decide +kernel
theorem d_X10_powers_28 : decode cX10_powers 28 = .ok (.getfield 85, 3) := by decide +kernel
theorem d_X10_powers_31 : decode cX10_powers 31 = .ok (.iload_n 2, 1) := by decide +kernel
theorem d_X10_powers_32 : decode cX10_powers 32 = .ok (.invokevirtual 263, 3) := by decide +kernel
theorem d_X10_powers_35 : decode cX10_powers 35 = .ok (.iadd, 1) := by decide +kernel
theorem d_X10_powers_36 : decode cX10_powers 36 = .ok (.istore_n 1, 1) := by decide +kernel
theorem d_X10_powers_37 : decode cX10_powers 37 = .ok (.iinc 2 1, 3) := by decide +kernel
theorem d_X10_powers_40 : decode cX10_powers 40 = .ok (.goto (-25), 3) := by decide +kernel
theorem d_X10_powers_43 : decode cX10_powers 43 = .ok (.iload_n 1, 1) := by decide +kernel
theorem d_X10_powers_44 : decode cX10_powers 44 = .ok (.ireturn, 1) := by decide +kernel
set_option maxRecDepth 100000 in
theorem L_X10_powers {p : Program} {l : Launch} {e : Env} {s : State} {m : MethodId} {args : Array Value} {below : List Frame} {meth : Method} {c : Code} {D : va_G} {ca : Nat → ClassId} {ad sx sy : Nat → Nat} {A : Nat → Prop} {Q : QT} (C0 : CX p s m args meth c cX10_powers 3 yX10_powers.cls D ca ad A) (hE : EX sx sy A s s.heap) (hr : meth.sig.returnType = (some .int)) (hno : ∀ x ∈ c.exceptionTable.toList, False) : R_X10_powers (JW p l e { frames := 13, cells := 0, slots := 6 * 0, locals := 262 } s m args below meth c 3 D ca ad A (vx_MQ below (Qn D ca ad A Q) (Qx D ca ad A Q) args s 0 (6 * 0) A) gz gz true) Q := ⟨s_aln C0 (d_X10_powers_0) hgz (s_gr C0 (j := 14) (c0 := 10) rfl gX10 (by decide) rfl rfl wg407 (d_X10_powers_1) hgz (s_aln C0 (d_X10_powers_4) hgz (s_gm C0 (j := 1) (c0 := 10) rfl gX10 (by decide) rfl rfl wg394 (d_X10_powers_5) hgz (s_callVN C0 hE (c_X7_weighPersons l) wg467 wn464 wg466 ws1 wg10 ⟨by decide, by decide⟩ (by decide +kernel) (c0 := 7) rfl ⟨by decide, by decide⟩ ⟨by decide, by decide⟩ (d_X10_powers_8) (fun x hx => (hno x hx).elim) ⟨by decide, by decide⟩ ⟨by decide, by decide⟩ (s_ic C0 (d_X10_powers_11) hgz (s_isn C0 (d_X10_powers_12) hgz (s_ic C0 (d_X10_powers_13) hgz (s_isn C0 (d_X10_powers_14) hgz (fun _ _ _ h => h)) (okn rfl))) (okn rfl)))))),
  s_iln C0 (d_X10_powers_15) hgz (s_aln C0 (d_X10_powers_16) hgz (s_gm C0 (j := 1) (c0 := 10) rfl gX10 (by decide) rfl rfl wg394 (d_X10_powers_17) hgz (s_giN C0 (j := 0) (c0 := 6) rfl gX6 (by decide) rfl (by decide) wn74 (d_X10_powers_20) hgz (s_cge C0 (d_X10_powers_23) (by decide) hgz hgz (fun _ _ _ h => h) (s_iln C0 (d_X10_powers_26) hgz (s_aln C0 (d_X10_powers_27) hgz (s_gr C0 (j := 14) (c0 := 10) rfl gX10 (by decide) rfl rfl wg407 (d_X10_powers_28) hgz (s_iln C0 (d_X10_powers_31) hgz (s_callVN C0 hE (c_X7_swingsOf l) wg488 wn485 wg487 ws4 wg10 ⟨by decide, by decide⟩ (by decide +kernel) (c0 := 7) rfl ⟨by decide, by decide⟩ ⟨by decide, by decide⟩ (d_X10_powers_32) (fun x hx => (hno x hx).elim) ⟨by decide, by decide⟩ ⟨by decide, by decide⟩ (s_add C0 (d_X10_powers_35) hgz (s_isn C0 (d_X10_powers_36) hgz (s_inc C0 (d_X10_powers_37) hgz (s_goto C0 (tgt := 15) (d_X10_powers_40) (by decide) hgz (fun _ _ _ h => h)))))))))))))),
  s_iln C0 (d_X10_powers_43) hgz (s_ri C0 hr (d_X10_powers_44) ⟨by decide, by decide⟩)⟩
theorem c_X10_powers (l : Launch) : Ctr l yX10_powers cX10_powers 3 (some .int) 13 262 0 (fun sx => (nf G_X10_powers)) := ctr_of (by decide) gz gz ⟨rfl, rfl⟩ (fun p e s m args below meth c D ca ad sx sy A Q as M C0 hE hr hno hF => P_X10_powers (L_X10_powers C0 hE hr hno) hF)
theorem d_X10_restore_0 : decode cX10_restore 0 = .ok (.aload_n 0, 1) := by decide +kernel
theorem d_X10_restore_1 : decode cX10_restore 1 = .ok (.getfield 126, 3) := by decide +kernel
theorem d_X10_restore_4 : decode cX10_restore 4 = .ok (.ifCond .gt 5, 3) := by decide +kernel
theorem d_X10_restore_7 : decode cX10_restore 7 = .ok (.iconst (-1), 1) := by decide +kernel
theorem d_X10_restore_8 : decode cX10_restore 8 = .ok (.ireturn, 1) := by decide +kernel
theorem d_X10_restore_9 : decode cX10_restore 9 = .ok (.aload_n 0, 1) := by decide +kernel
theorem d_X10_restore_10 : decode cX10_restore 10 = .ok (.dup, 1) := by decide +kernel
theorem d_X10_restore_11 : decode cX10_restore 11 = .ok (.getfield 126, 3) := by decide +kernel
theorem d_X10_restore_14 : decode cX10_restore 14 = .ok (.iconst 1, 1) := by decide +kernel
theorem d_X10_restore_15 : decode cX10_restore 15 = .ok (.isub, 1) := by decide +kernel
theorem d_X10_restore_16 : decode cX10_restore 16 = .ok (.putfield 126, 3) := by decide +kernel
theorem d_X10_restore_19 : decode cX10_restore 19 = .ok (.aload_n 0, 1) := by decide +kernel
theorem d_X10_restore_20 : decode cX10_restore 20 = .ok (.getfield 29, 3) := by decide +kernel
theorem d_X10_restore_23 : decode cX10_restore 23 = .ok (.aload_n 0, 1) := by decide +kernel
theorem d_X10_restore_24 : decode cX10_restore 24 = .ok (.getfield 43, 3) := by decide +kernel
theorem d_X10_restore_27 : decode cX10_restore 27 = .ok (.aload_n 0, 1) := by decide +kernel
theorem d_X10_restore_28 : decode cX10_restore 28 = .ok (.getfield 126, 3) := by decide +kernel
theorem d_X10_restore_31 : decode cX10_restore 31 = .ok (.aaload, 1) := by decide +kernel
theorem d_X10_restore_32 : decode cX10_restore 32 = .ok (.invokevirtual 329, 3) := by decide +kernel
theorem d_X10_restore_35 : decode cX10_restore 35 = .ok (.aload_n 0, 1) := by decide +kernel
theorem d_X10_restore_36 : decode cX10_restore 36 = .ok (.getfield 39, 3) := by decide +kernel
theorem d_X10_restore_39 : decode cX10_restore 39 = .ok (.aload_n 0, 1) := by decide +kernel
theorem d_X10_restore_40 : decode cX10_restore 40 = .ok (.getfield 47, 3) := by decide +kernel
theorem d_X10_restore_43 : decode cX10_restore 43 = .ok (.aload_n 0, 1) := by decide +kernel
theorem d_X10_restore_44 : decode cX10_restore 44 = .ok (.getfield 126, 3) := by decide +kernel
theorem d_X10_restore_47 : decode cX10_restore 47 = .ok (.aaload, 1) := by decide +kernel
theorem d_X10_restore_48 : decode cX10_restore 48 = .ok (.invokevirtual 332, 3) := by decide +kernel
theorem d_X10_restore_51 : decode cX10_restore 51 = .ok (.aload_n 0, 1) := by decide +kernel
theorem d_X10_restore_52 : decode cX10_restore 52 = .ok (.invokevirtual 129, 3) := by decide +kernel
theorem d_X10_restore_55 : decode cX10_restore 55 = .ok (.aload_n 0, 1) := by decide +kernel
theorem d_X10_restore_56 : decode cX10_restore 56 = .ok (.getfield 126, 3) := by decide +kernel
theorem d_X10_restore_59 : decode cX10_restore 59 = .ok (.ireturn, 1) := by decide +kernel
set_option maxRecDepth 100000 in
theorem L_X10_restore {p : Program} {l : Launch} {e : Env} {s : State} {m : MethodId} {args : Array Value} {below : List Frame} {meth : Method} {c : Code} {D : va_G} {ca : Nat → ClassId} {ad sx sy : Nat → Nat} {A : Nat → Prop} {Q : QT} (C0 : CX p s m args meth c cX10_restore 1 yX10_restore.cls D ca ad A) (hE : EX sx sy A s s.heap) (hr : meth.sig.returnType = (some .int)) (hno : ∀ x ∈ c.exceptionTable.toList, False) : R_X10_restore (JW p l e { frames := 11, cells := 0, slots := 6 * 0, locals := 221 } s m args below meth c 1 D ca ad A (vx_MQ below (Qn D ca ad A Q) (Qx D ca ad A Q) args s 0 (6 * 0) A) gz gz true) Q := ⟨s_aln C0 (d_X10_restore_0) hgz (s_gi C0 (j := 8) (c0 := 10) rfl gX10 (by decide) rfl (by decide) wg401 (d_X10_restore_1) hgz (s_zgt C0 (d_X10_restore_4) (by decide) hgz hgz (fun _ _ _ h => h) (s_ic C0 (d_X10_restore_7) hgz (s_ri C0 hr (d_X10_restore_8) ⟨by decide, by decide⟩) (okn rfl)))),
  s_aln C0 (d_X10_restore_9) hgz (s_dup C0 (d_X10_restore_10) hgz (s_gi C0 (j := 8) (c0 := 10) rfl gX10 (by decide) rfl (by decide) wg401 (d_X10_restore_11) hgz (s_ic C0 (d_X10_restore_14) hgz (s_sub C0 (d_X10_restore_15) hgz (s_pi C0 (j := 8) (c0 := 10) rfl gX10 tyX10_ok nmX10 (by decide) rfl (by decide) rfl rfl wg401 (d_X10_restore_16) hgz (s_aln C0 (d_X10_restore_19) hgz (s_gm C0 (j := 3) (c0 := 10) rfl gX10 (by decide) rfl rfl wg396 (d_X10_restore_20) hgz (s_aln C0 (d_X10_restore_23) hgz (s_gr C0 (j := 6) (c0 := 10) rfl gX10 (by decide) rfl rfl wg399 (d_X10_restore_24) hgz (s_aln C0 (d_X10_restore_27) hgz (s_gi C0 (j := 8) (c0 := 10) rfl gX10 (by decide) rfl (by decide) wg401 (d_X10_restore_28) hgz (s_aa C0 (by decide) (by decide) rfl rfl (d_X10_restore_31) hgz (s_callVN C0 hE (c_X5_copyFrom l) wg531 wn528 wg530 ws11 wg4 ⟨by decide, by decide⟩ (by decide +kernel) (c0 := 5) rfl ⟨by decide, by decide⟩ ⟨by decide, by decide⟩ (d_X10_restore_32) (fun x hx => (hno x hx).elim) ⟨by decide, by decide⟩ ⟨by decide, by decide⟩ (s_aln C0 (d_X10_restore_35) hgz (s_gr C0 (j := 5) (c0 := 10) rfl gX10 (by decide) rfl rfl wg398 (d_X10_restore_36) hgz (s_aln C0 (d_X10_restore_39) hgz (s_gr C0 (j := 7) (c0 := 10) rfl gX10 (by decide) rfl rfl wg400 (d_X10_restore_40) hgz (s_aln C0 (d_X10_restore_43) hgz (s_gi C0 (j := 8) (c0 := 10) rfl gX10 (by decide) rfl (by decide) wg401 (d_X10_restore_44) hgz (s_aa C0 (by decide) (by decide) rfl rfl (d_X10_restore_47) hgz (s_callVN C0 hE (c_X0_copyFrom l) wg538 wn535 wg537 ws12 wg5 ⟨by decide, by decide⟩ (by decide +kernel) (c0 := 0) rfl ⟨by decide, by decide⟩ ⟨by decide, by decide⟩ (d_X10_restore_48) (fun x hx => (hno x hx).elim) ⟨by decide, by decide⟩ ⟨by decide, by decide⟩ (s_aln C0 (d_X10_restore_51) hgz (s_callV C0 hE (c_X10_startAnew l) wg523 wg520 wg522 ws10 wg1 ⟨by decide, by decide⟩ (by decide +kernel) (c0 := 10) rfl ⟨by decide, by decide⟩ ⟨by decide, by decide⟩ (d_X10_restore_52) (fun x hx => (hno x hx).elim) ⟨by decide, by decide⟩ ⟨by decide, by decide⟩ (s_aln C0 (d_X10_restore_55) hgz (s_gi C0 (j := 8) (c0 := 10) rfl gX10 (by decide) rfl (by decide) wg401 (d_X10_restore_56) hgz (s_ri C0 hr (d_X10_restore_59) ⟨by decide, by decide⟩))))))))))))))))))))))) (okn rfl))))⟩
theorem c_X10_restore (l : Launch) : Ctr l yX10_restore cX10_restore 1 (some .int) 11 221 0 (fun sx => (nf G_X10_restore)) := ctr_of (by decide) gz gz ⟨rfl, rfl⟩ (fun p e s m args below meth c D ca ad sx sy A Q as M C0 hE hr hno hF => P_X10_restore (L_X10_restore C0 hE hr hno) hF)
theorem wg1177 : Cond.code ⟨"WeighedHall", "pauseFrom", "(I)V"⟩ prog_1_method_37_code 3 (Option.none : Option FieldType) ∈ GT := gt_mem 1297 (by decide +kernel) rfl
theorem wg1174 : Cond.methodLink "WeighedHall" 321 ⟨"WeighedHall", "pauseFrom", "(I)V"⟩ ∈ GT := gt_mem 1294 (by decide +kernel) rfl
theorem wg1176 : Cond.instanceMethod ⟨"WeighedHall", "pauseFrom", "(I)V"⟩ ∈ GT := gt_mem 1296 (by decide +kernel) rfl
theorem ws80 : Cond.selects "WeighedHall" ⟨"WeighedHall", "pauseFrom", "(I)V"⟩ ⟨"WeighedHall", "pauseFrom", "(I)V"⟩ ∈ GT := gt_mem 80 (by decide +kernel) rfl
theorem wn123 : Cond.fieldLinkNest "WeighedHall" 318 "WeighedHall$Plan" "minute" "[I" "WeighedHall" ∈ NT := nt_mem 123 (by decide +kernel) rfl
theorem wn1183 : Cond.methodLinkNest "WeighedHall" 328 ⟨"WeighedHall$Sitting", "isPassed", "(II)Z"⟩ "WeighedHall" ∈ NT := nt_mem 1183 (by decide +kernel) rfl
theorem d_X10_speech_0 : decode cX10_speech 0 = .ok (.aload_n 0, 1) := by decide +kernel
theorem d_X10_speech_1 : decode cX10_speech 1 = .ok (.aload_n 0, 1) := by decide +kernel
theorem d_X10_speech_2 : decode cX10_speech 2 = .ok (.getfield 19, 3) := by decide +kernel
theorem d_X10_speech_5 : decode cX10_speech 5 = .ok (.iload_n 1, 1) := by decide +kernel
theorem d_X10_speech_6 : decode cX10_speech 6 = .ok (.invokevirtual 212, 3) := by decide +kernel
theorem d_X10_speech_9 : decode cX10_speech 9 = .ok (.invokevirtual 160, 3) := by decide +kernel
theorem d_X10_speech_12 : decode cX10_speech 12 = .ok (.aload_n 0, 1) := by decide +kernel
theorem d_X10_speech_13 : decode cX10_speech 13 = .ok (.iload_n 2, 1) := by decide +kernel
theorem d_X10_speech_14 : decode cX10_speech 14 = .ok (.iconst 1, 1) := by decide +kernel
theorem d_X10_speech_15 : decode cX10_speech 15 = .ok (.if_icmp .lt 13, 3) := by decide +kernel
theorem d_X10_speech_18 : decode cX10_speech 18 = .ok (.iload_n 2, 1) := by decide +kernel
theorem d_X10_speech_19 : decode cX10_speech 19 = .ok (.bipush 60, 2) := by decide +kernel
theorem d_X10_speech_21 : decode cX10_speech 21 = .ok (.if_icmp .gt 7, 3) := by decide +kernel
theorem d_X10_speech_24 : decode cX10_speech 24 = .ok (.iconst 1, 1) := by decide +kernel
theorem d_X10_speech_25 : decode cX10_speech 25 = .ok (.goto 4, 3) := by decide +kernel
theorem d_X10_speech_28 : decode cX10_speech 28 = .ok (.iconst 0, 1) := by decide +kernel
theorem d_X10_speech_29 : decode cX10_speech 29 = .ok (.invokevirtual 104, 3) := by decide +kernel
theorem d_X10_speech_32 : decode cX10_speech 32 = .ok (.aload_n 0, 1) := by decide +kernel
theorem d_X10_speech_33 : decode cX10_speech 33 = .ok (.getfield 19, 3) := by decide +kernel
theorem d_X10_speech_36 : decode cX10_speech 36 = .ok (.getfield 318, 3) := by decide +kernel
theorem d_X10_speech_39 : decode cX10_speech 39 = .ok (.iload_n 1, 1) := by decide +kernel
theorem d_X10_speech_40 : decode cX10_speech 40 = .ok (.iaload, 1) := by decide +kernel
theorem d_X10_speech_41 : decode cX10_speech 41 = .ok (.istore_n 3, 1) := by decide +kernel
theorem d_X10_speech_42 : decode cX10_speech 42 = .ok (.aload_n 0, 1) := by decide +kernel
theorem d_X10_speech_43 : decode cX10_speech 43 = .ok (.iload_n 3, 1) := by decide +kernel
theorem d_X10_speech_44 : decode cX10_speech 44 = .ok (.invokevirtual 321, 3) := by decide +kernel
theorem d_X10_speech_47 : decode cX10_speech 47 = .ok (.iconst 0, 1) := by decide +kernel
theorem d_X10_speech_48 : decode cX10_speech 48 = .ok (.istore 4, 2) := by decide +kernel
theorem d_X10_speech_50 : decode cX10_speech 50 = .ok (.iload 4, 2) := by decide +kernel
theorem d_X10_speech_52 : decode cX10_speech 52 = .ok (.iload_n 2, 1) := by decide +kernel
theorem d_X10_speech_53 : decode cX10_speech 53 = .ok (.if_icmp .ge 21, 3) := by decide +kernel
theorem d_X10_speech_56 : decode cX10_speech 56 = .ok (.aload_n 0, 1) := by decide +kernel
theorem d_X10_speech_57 : decode cX10_speech 57 = .ok (.getfield 61, 3) := by decide +kernel
theorem d_X10_speech_60 : decode cX10_speech 60 = .ok (.iload_n 3, 1) := by decide +kernel
theorem d_X10_speech_61 : decode cX10_speech 61 = .ok (.iload 4, 2) := by decide +kernel
theorem d_X10_speech_63 : decode cX10_speech 63 = .ok (.iadd, 1) := by decide +kernel
theorem d_X10_speech_64 : decode cX10_speech 64 = .ok (.iconst (-1), 1) := by decide +kernel
theorem d_X10_speech_65 : decode cX10_speech 65 = .ok (.invokevirtual 252, 3) := by decide +kernel
theorem d_X10_speech_68 : decode cX10_speech 68 = .ok (.iinc 4 1, 3) := by decide +kernel
theorem d_X10_speech_71 : decode cX10_speech 71 = .ok (.goto (-21), 3) := by decide +kernel
theorem d_X10_speech_74 : decode cX10_speech 74 = .ok (.aload_n 0, 1) := by decide +kernel
theorem d_X10_speech_75 : decode cX10_speech 75 = .ok (.getfield 61, 3) := by decide +kernel
theorem d_X10_speech_78 : decode cX10_speech 78 = .ok (.iload_n 3, 1) := by decide +kernel
theorem d_X10_speech_79 : decode cX10_speech 79 = .ok (.iload_n 2, 1) := by decide +kernel
theorem d_X10_speech_80 : decode cX10_speech 80 = .ok (.iadd, 1) := by decide +kernel
theorem d_X10_speech_81 : decode cX10_speech 81 = .ok (.iload_n 3, 1) := by decide +kernel
theorem d_X10_speech_82 : decode cX10_speech 82 = .ok (.invokevirtual 252, 3) := by decide +kernel
theorem d_X10_speech_85 : decode cX10_speech 85 = .ok (.aload_n 0, 1) := by decide +kernel
theorem d_X10_speech_86 : decode cX10_speech 86 = .ok (.getfield 61, 3) := by decide +kernel
theorem d_X10_speech_89 : decode cX10_speech 89 = .ok (.iload_n 1, 1) := by decide +kernel
theorem d_X10_speech_90 : decode cX10_speech 90 = .ok (.aload_n 0, 1) := by decide +kernel
theorem d_X10_speech_91 : decode cX10_speech 91 = .ok (.getfield 19, 3) := by decide +kernel
theorem d_X10_speech_94 : decode cX10_speech 94 = .ok (.getfield 153, 3) := by decide +kernel
theorem d_X10_speech_97 : decode cX10_speech 97 = .ok (.invokevirtual 328, 3) := by decide +kernel
theorem d_X10_speech_100 : decode cX10_speech 100 = .ok (.ireturn, 1) := by decide +kernel
set_option maxRecDepth 100000 in
theorem L_X10_speech {p : Program} {l : Launch} {e : Env} {s : State} {m : MethodId} {args : Array Value} {below : List Frame} {meth : Method} {c : Code} {D : va_G} {ca : Nat → ClassId} {ad sx sy : Nat → Nat} {A : Nat → Prop} {Q : QT} (hl0 : l.stackTraces = false) (C0 : CX p s m args meth c cX10_speech 5 yX10_speech.cls D ca ad A) (hE : EX sx sy A s s.heap) (hr : meth.sig.returnType = (some .boolean)) (hno : ∀ x ∈ c.exceptionTable.toList, False) : R_X10_speech (JW p l e { frames := 15, cells := 2, slots := 6 * 2, locals := 315 } s m args below meth c 5 D ca ad A (vx_MQ below (Qn D ca ad A Q) (Qx D ca ad A Q) args s 2 (6 * 2) A) (gl [(9, 1), (29, 1)]) (gl6 [(9, 1), (29, 1)]) true) Q := ⟨s_aln C0 (d_X10_speech_0) (hgq rfl) (s_aln C0 (d_X10_speech_1) (hgq rfl) (s_gm C0 (j := 1) (c0 := 10) rfl gX10 (by decide) rfl rfl wg394 (d_X10_speech_2) (hgq rfl) (s_iln C0 (d_X10_speech_5) (hgq rfl) (s_callVN C0 hE (c_X6_hasMotion l) wg969 wn966 wg968 ws57 wg3 ⟨by decide, by decide⟩ (by decide +kernel) (c0 := 6) rfl ⟨by decide, by decide⟩ ⟨by decide, by decide⟩ (d_X10_speech_6) (fun x hx => (hno x hx).elim) ⟨by decide, by decide⟩ ⟨by decide, by decide⟩ (s_callV C0 hE (c_X10_needElement l hl0) wg815 wg812 wg814 ws37 wg1 ⟨by decide, by decide⟩ (by decide +kernel) (c0 := 10) rfl ⟨by decide, by decide⟩ ⟨by decide, by decide⟩ (d_X10_speech_9) (fun x hx => (hno x hx).elim) ⟨by decide, by decide⟩ ⟨by decide, by decide⟩ (s_aln C0 (d_X10_speech_12) (hgq rfl) (s_iln C0 (d_X10_speech_13) (hgq rfl) (s_ic C0 (d_X10_speech_14) (hgq rfl) (s_clt C0 (d_X10_speech_15) (by decide) (hgq rfl) (hgq rfl) (fun _ _ _ h => h) (s_iln C0 (d_X10_speech_18) (hgq rfl) (s_bi C0 (d_X10_speech_19) (hgq rfl) (s_cgt C0 (d_X10_speech_21) (by decide) (hgq rfl) (hgq rfl) (fun _ _ _ h => h) (s_ic C0 (d_X10_speech_24) (hgq rfl) (s_goto C0 (tgt := 29) (d_X10_speech_25) (by decide) (hgq rfl) (fun _ _ _ h => h)) (okn rfl))) (okn rfl) rfl))) (okn rfl))))))))),
  s_ic C0 (d_X10_speech_28) (hgq rfl) (fun _ _ _ h => h) (okn rfl),
  s_callV C0 hE (c_X10_needArgument l hl0) wg563 wg560 wg562 ws13 wg1 ⟨by decide, by decide⟩ (by decide +kernel) (c0 := 10) rfl ⟨by decide, by decide⟩ ⟨by decide, by decide⟩ (d_X10_speech_29) (fun x hx => (hno x hx).elim) ⟨by decide, by decide⟩ ⟨by decide, by decide⟩ (s_aln C0 (d_X10_speech_32) (hgq rfl) (s_gm C0 (j := 1) (c0 := 10) rfl gX10 (by decide) rfl rfl wg394 (d_X10_speech_33) (hgq rfl) (s_grN C0 (j := 11) (c0 := 6) rfl gX6 (by decide) rfl rfl wn123 (d_X10_speech_36) (hgq rfl) (s_iln C0 (d_X10_speech_39) (hgq rfl) (s_ia C0 (d_X10_speech_40) (hgq rfl) (s_isn C0 (d_X10_speech_41) (hgq rfl) (s_aln C0 (d_X10_speech_42) (hgq rfl) (s_iln C0 (d_X10_speech_43) (hgq rfl) (s_callV C0 hE (c_X10_pauseFrom l) wg1177 wg1174 wg1176 ws80 wg1 ⟨by decide, by decide⟩ (by decide +kernel) (c0 := 10) rfl ⟨by decide, by decide⟩ ⟨by decide, by decide⟩ (d_X10_speech_44) (fun x hx => (hno x hx).elim) ⟨by decide, by decide⟩ ⟨by decide, by decide⟩ (s_ic C0 (d_X10_speech_47) (hgq rfl) (s_is C0 (d_X10_speech_48) (hgq rfl) (fun _ _ _ h => h)) (okn rfl))))))))))),
  s_il C0 (d_X10_speech_50) (hgq rfl) (s_iln C0 (d_X10_speech_52) (hgq rfl) (s_cge C0 (d_X10_speech_53) (by decide) (hgq rfl) (hgq rfl) (fun _ _ _ h => h) (s_aln C0 (d_X10_speech_56) (hgq rfl) (s_gr C0 (j := 10) (c0 := 10) rfl gX10 (by decide) rfl rfl wg403 (d_X10_speech_57) (hgq rfl) (s_iln C0 (d_X10_speech_60) (hgq rfl) (s_il C0 (d_X10_speech_61) (hgq rfl) (s_add C0 (d_X10_speech_63) (hgq rfl) (s_ic C0 (d_X10_speech_64) (hgq rfl) (s_callVN C0 hE (c_X8_goThrough l) wg871 wn1049 wg870 ws43 wg7 ⟨by decide, by decide⟩ (by decide +kernel) (c0 := 8) rfl ⟨by decide, by decide⟩ ⟨by decide, by decide⟩ (d_X10_speech_65) (fun x hx => (hno x hx).elim) ⟨by decide, by decide⟩ ⟨by decide, by decide⟩ (s_inc C0 (d_X10_speech_68) (hgq rfl) (s_goto C0 (tgt := 50) (d_X10_speech_71) (by decide) (hgq rfl) (fun _ _ _ h => h)))) (okn rfl))))))))),
  s_aln C0 (d_X10_speech_74) (hgq rfl) (s_gr C0 (j := 10) (c0 := 10) rfl gX10 (by decide) rfl rfl wg403 (d_X10_speech_75) (hgq rfl) (s_iln C0 (d_X10_speech_78) (hgq rfl) (s_iln C0 (d_X10_speech_79) (hgq rfl) (s_add C0 (d_X10_speech_80) (hgq rfl) (s_iln C0 (d_X10_speech_81) (hgq rfl) (s_callVN C0 hE (c_X8_goThrough l) wg871 wn1049 wg870 ws43 wg7 ⟨by decide, by decide⟩ (by decide +kernel) (c0 := 8) rfl ⟨by decide, by decide⟩ ⟨by decide, by decide⟩ (d_X10_speech_82) (fun x hx => (hno x hx).elim) ⟨by decide, by decide⟩ ⟨by decide, by decide⟩ (s_aln C0 (d_X10_speech_85) (hgq rfl) (s_gr C0 (j := 10) (c0 := 10) rfl gX10 (by decide) rfl rfl wg403 (d_X10_speech_86) (hgq rfl) (s_iln C0 (d_X10_speech_89) (hgq rfl) (s_aln C0 (d_X10_speech_90) (hgq rfl) (s_gm C0 (j := 1) (c0 := 10) rfl gX10 (by decide) rfl rfl wg394 (d_X10_speech_91) (hgq rfl) (s_giN C0 (j := 14) (c0 := 6) rfl gX6 (by decide) rfl (by decide) wn132 (d_X10_speech_94) (hgq rfl) (s_callVN C0 hE (c_X8_isPassed l) wg1057 wn1183 wg1056 ws67 wg7 ⟨by decide, by decide⟩ (by decide +kernel) (c0 := 8) rfl ⟨by decide, by decide⟩ ⟨by decide, by decide⟩ (d_X10_speech_97) (fun x hx => (hno x hx).elim) ⟨by decide, by decide⟩ ⟨by decide, by decide⟩ (s_rz C0 hr (d_X10_speech_100) ⟨by decide, by decide⟩))))))))))))))⟩
theorem c_X10_speech (l : Launch) (hl0 : l.stackTraces = false) : Ctr l yX10_speech cX10_speech 5 (some .boolean) 15 315 2 (fun sx => F_X10_speech) := ctr_of (by decide) (gl [(9, 1), (29, 1)]) (gl6 [(9, 1), (29, 1)]) ⟨rfl, rfl⟩ (fun p e s m args below meth c D ca ad sx sy A Q as M C0 hE hr hno hF => P_X10_speech (L_X10_speech hl0 C0 hE hr hno) hF)
