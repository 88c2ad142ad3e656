theorem d_L_law_1043 : decode cL_law 1043 = .ok (.goto 788, 3) := by decide +kernel
set_option maxRecDepth 100000 in
theorem lb_1043 {p : Program} {l : Launch} {e : Env} {s : State} {m : MethodId} {args : Array Value} {below : List Frame} {meth : Method} {c : Code} {D : va_G} {ca : Nat → ClassId} {ad sx sy : Nat → Nat} {A : Nat → Prop} {Q : QT} {b L k : Nat} {xs : Nat → Int32} (hl0 : l.stackTraces = false) (hk : k < 600) (C0 : CX p s m args meth c cL_law 7 yL_law.cls D ca ad A) (hE : EX sx sy A s s.heap) (hr : meth.sig.returnType = some .boolean) (hno : ∀ x ∈ c.exceptionTable.toList, False) (hX : va_X b L xs s s.heap) (hbl : b < s.heap.size) (hbA : ¬ A b) (hL : L < 2147483648) : ∀ ls st M, wpl (LJ p l e s m args below meth c D ca ad A Q k) Q (b_L_law_1043 b L xs) ls st M → LJ p l e s m args below meth c D ca ad A Q k 1043 ls st M := s_goto C0 (tgt := 1831) (d_L_law_1043) (by decide) (hgl rfl) (fun _ _ _ h => h)
theorem wg1554 : Cond.code ⟨"WeighedHallModel", "least", "(II)I"⟩ prog_13_method_56_code 3 (Option.some .int) ∈ GT := gt_mem 1674 (by decide +kernel) rfl
theorem wg1551 : Cond.methodLink "WeighedHallLaw" 144 ⟨"WeighedHallModel", "least", "(II)I"⟩ ∈ GT := gt_mem 1671 (by decide +kernel) rfl
theorem wg1552 : Cond.instanceMethod ⟨"WeighedHallModel", "least", "(II)I"⟩ ∈ GT := gt_mem 1672 (by decide +kernel) rfl
theorem wg1553 : Cond.selects "WeighedHallModel" ⟨"WeighedHallModel", "least", "(II)I"⟩ ⟨"WeighedHallModel", "least", "(II)I"⟩ ∈ GT := gt_mem 1673 (by decide +kernel) rfl
theorem wg1011 : Cond.codeWith ⟨"WeighedHallLaw", "least", "(LWeighedHall;II[J)I"⟩ method_15_code 5 (Option.some .int) [(0, 10, 13, 25), (0, 10, 17, 13)] ∈ GT := gt_mem 1131 (by decide +kernel) rfl
theorem wg1009 : Cond.methodLink "WeighedHallLaw" 142 ⟨"WeighedHallLaw", "least", "(LWeighedHall;II[J)I"⟩ ∈ GT := gt_mem 1129 (by decide +kernel) rfl
theorem wg1010 : Cond.static ⟨"WeighedHallLaw", "least", "(LWeighedHall;II[J)I"⟩ ∈ GT := gt_mem 1130 (by decide +kernel) rfl
theorem d_L_law_1046 : decode cL_law 1046 = .ok (.aload_n 1, 1) := by decide +kernel
theorem d_L_law_1047 : decode cL_law 1047 = .ok (.aload_n 0, 1) := by decide +kernel
theorem d_L_law_1048 : decode cL_law 1048 = .ok (.iload 4, 2) := by decide +kernel
theorem d_L_law_1050 : decode cL_law 1050 = .ok (.iconst 1, 1) := by decide +kernel
theorem d_L_law_1051 : decode cL_law 1051 = .ok (.iadd, 1) := by decide +kernel
theorem d_L_law_1052 : decode cL_law 1052 = .ok (.iaload, 1) := by decide +kernel
theorem d_L_law_1053 : decode cL_law 1053 = .ok (.aload_n 0, 1) := by decide +kernel
theorem d_L_law_1054 : decode cL_law 1054 = .ok (.iload 4, 2) := by decide +kernel
theorem d_L_law_1056 : decode cL_law 1056 = .ok (.iconst 2, 1) := by decide +kernel
theorem d_L_law_1057 : decode cL_law 1057 = .ok (.iadd, 1) := by decide +kernel
theorem d_L_law_1058 : decode cL_law 1058 = .ok (.iaload, 1) := by decide +kernel
theorem d_L_law_1059 : decode cL_law 1059 = .ok (.aload_n 3, 1) := by decide +kernel
theorem d_L_law_1060 : decode cL_law 1060 = .ok (.invokestatic 142, 3) := by decide +kernel
theorem d_L_law_1063 : decode cL_law 1063 = .ok (.istore 5, 2) := by decide +kernel
theorem d_L_law_1065 : decode cL_law 1065 = .ok (.aload_n 2, 1) := by decide +kernel
theorem d_L_law_1066 : decode cL_law 1066 = .ok (.aload_n 0, 1) := by decide +kernel
theorem d_L_law_1067 : decode cL_law 1067 = .ok (.iload 4, 2) := by decide +kernel
theorem d_L_law_1069 : decode cL_law 1069 = .ok (.iconst 1, 1) := by decide +kernel
theorem d_L_law_1070 : decode cL_law 1070 = .ok (.iadd, 1) := by decide +kernel
theorem d_L_law_1071 : decode cL_law 1071 = .ok (.iaload, 1) := by decide +kernel
theorem d_L_law_1072 : decode cL_law 1072 = .ok (.aload_n 0, 1) := by decide +kernel
theorem d_L_law_1073 : decode cL_law 1073 = .ok (.iload 4, 2) := by decide +kernel
theorem d_L_law_1075 : decode cL_law 1075 = .ok (.iconst 2, 1) := by decide +kernel
theorem d_L_law_1076 : decode cL_law 1076 = .ok (.iadd, 1) := by decide +kernel
theorem d_L_law_1077 : decode cL_law 1077 = .ok (.iaload, 1) := by decide +kernel
theorem d_L_law_1078 : decode cL_law 1078 = .ok (.invokevirtual 144, 3) := by decide +kernel
theorem d_L_law_1081 : decode cL_law 1081 = .ok (.istore 6, 2) := by decide +kernel
theorem d_L_law_1083 : decode cL_law 1083 = .ok (.aload_n 2, 1) := by decide +kernel
theorem d_L_law_1084 : decode cL_law 1084 = .ok (.invokevirtual 99, 3) := by decide +kernel
theorem d_L_law_1087 : decode cL_law 1087 = .ok (.iload 5, 2) := by decide +kernel
theorem d_L_law_1089 : decode cL_law 1089 = .ok (.if_icmp .eq 5, 3) := by decide +kernel
theorem d_L_law_1092 : decode cL_law 1092 = .ok (.iconst 0, 1) := by decide +kernel
theorem d_L_law_1093 : decode cL_law 1093 = .ok (.ireturn, 1) := by decide +kernel
set_option maxRecDepth 100000 in
theorem lb_1046 {p : Program} {l : Launch} {e : Env} {s : State} {m : MethodId} {args : Array Value} {below : List Frame} {meth : Method} {c : Code} {D : va_G} {ca : Nat → ClassId} {ad sx sy : Nat → Nat} {A : Nat → Prop} {Q : QT} {b L k : Nat} {xs : Nat → Int32} (hl0 : l.stackTraces = false) (hk : k < 600) (C0 : CX p s m args meth c cL_law 7 yL_law.cls D ca ad A) (hE : EX sx sy A s s.heap) (hr : meth.sig.returnType = some .boolean) (hno : ∀ x ∈ c.exceptionTable.toList, False) (hX : va_X b L xs s s.heap) (hbl : b < s.heap.size) (hbA : ¬ A b) (hL : L < 2147483648) : ∀ ls st M, wpl (LJ p l e s m args below meth c D ca ad A Q k) Q (b_L_law_1046 b L xs) ls st M → LJ p l e s m args below meth c D ca ad A Q k 1046 ls st M := s_aln C0 (d_L_law_1046) (hgl rfl) (s_aln C0 (d_L_law_1047) (hgl rfl) (s_il C0 (d_L_law_1048) (hgl rfl) (s_ic C0 (d_L_law_1050) (hgl rfl) (s_add C0 (d_L_law_1051) (hgl rfl) (s_scr C0 hX hbl hbA (d_L_law_1052) (hgl rfl) (s_aln C0 (d_L_law_1053) (hgl rfl) (s_il C0 (d_L_law_1054) (hgl rfl) (s_ic C0 (d_L_law_1056) (hgl rfl) (s_add C0 (d_L_law_1057) (hgl rfl) (s_scr C0 hX hbl hbA (d_L_law_1058) (hgl rfl) (s_aln C0 (d_L_law_1059) (hgl rfl) (s_callSH C0 hE (c_L_least l hl0) wg1011 wg1009 wg1010 wg0 ⟨by decide, by decide⟩ (by decide +kernel) ⟨by decide, by decide⟩ (hfl hk rfl) (d_L_law_1060) (fun x hx => (hno x hx).elim) (hgc rfl rfl rfl) (hfl hk rfl) (s_is C0 (d_L_law_1063) (hgl rfl) (s_aln C0 (d_L_law_1065) (hgl rfl) (s_aln C0 (d_L_law_1066) (hgl rfl) (s_il C0 (d_L_law_1067) (hgl rfl) (s_ic C0 (d_L_law_1069) (hgl rfl) (s_add C0 (d_L_law_1070) (hgl rfl) (s_scr C0 hX hbl hbA (d_L_law_1071) (hgl rfl) (s_aln C0 (d_L_law_1072) (hgl rfl) (s_il C0 (d_L_law_1073) (hgl rfl) (s_ic C0 (d_L_law_1075) (hgl rfl) (s_add C0 (d_L_law_1076) (hgl rfl) (s_scr C0 hX hbl hbA (d_L_law_1077) (hgl rfl) (s_callV C0 hE (c_X11_least l) wg1554 wg1551 wg1552 wg1553 wg12 ⟨by decide, by decide⟩ (by decide +kernel) (c0 := 11) rfl ⟨by decide, by decide⟩ (hfl hk rfl) (d_L_law_1078) (fun x hx => (hno x hx).elim) (hgc0 rfl) (hfl hk rfl) (s_is C0 (d_L_law_1081) (hgl rfl) (s_aln C0 (d_L_law_1083) (hgl rfl) (s_callV C0 hE (c_X11_thrown l) wg1344 wg1341 wg1342 wg1343 wg12 ⟨by decide, by decide⟩ (by decide +kernel) (c0 := 11) rfl ⟨by decide, by decide⟩ (hfl hk rfl) (d_L_law_1084) (fun x hx => (hno x hx).elim) (hgc0 rfl) (hfl hk rfl) (s_il C0 (d_L_law_1087) (hgl rfl) (s_ceq C0 (d_L_law_1089) (by decide) (hgl rfl) (hgl rfl) (fun _ _ _ h => h) (s_ic C0 (d_L_law_1092) (hgl rfl) (s_rz C0 hr (d_L_law_1093) (hfr hk)) (okn rfl)))))))))) (okn rfl)))))) (okn rfl)))))))))) (okn rfl)))))) (okn rfl))))
theorem d_L_law_1094 : decode cL_law 1094 = .ok (.iload 5, 2) := by decide +kernel
theorem d_L_law_1096 : decode cL_law 1096 = .ok (.ifCond .ne 15, 3) := by decide +kernel
theorem d_L_law_1099 : decode cL_law 1099 = .ok (.aload_n 3, 1) := by decide +kernel
theorem d_L_law_1100 : decode cL_law 1100 = .ok (.iconst 0, 1) := by decide +kernel
theorem d_L_law_1101 : decode cL_law 1101 = .ok (.laload, 1) := by decide +kernel
theorem d_L_law_1102 : decode cL_law 1102 = .ok (.iload 6, 2) := by decide +kernel
theorem d_L_law_1104 : decode cL_law 1104 = .ok (.i2l, 1) := by decide +kernel
theorem d_L_law_1105 : decode cL_law 1105 = .ok (.lcmp, 1) := by decide +kernel
theorem d_L_law_1106 : decode cL_law 1106 = .ok (.ifCond .eq 5, 3) := by decide +kernel
theorem d_L_law_1109 : decode cL_law 1109 = .ok (.iconst 0, 1) := by decide +kernel
theorem d_L_law_1110 : decode cL_law 1110 = .ok (.ireturn, 1) := by decide +kernel
set_option maxRecDepth 100000 in
theorem lb_1094 {p : Program} {l : Launch} {e : Env} {s : State} {m : MethodId} {args : Array Value} {below : List Frame} {meth : Method} {c : Code} {D : va_G} {ca : Nat → ClassId} {ad sx sy : Nat → Nat} {A : Nat → Prop} {Q : QT} {b L k : Nat} {xs : Nat → Int32} (hl0 : l.stackTraces = false) (hk : k < 600) (C0 : CX p s m args meth c cL_law 7 yL_law.cls D ca ad A) (hE : EX sx sy A s s.heap) (hr : meth.sig.returnType = some .boolean) (hno : ∀ x ∈ c.exceptionTable.toList, False) (hX : va_X b L xs s s.heap) (hbl : b < s.heap.size) (hbA : ¬ A b) (hL : L < 2147483648) : ∀ ls st M, wpl (LJ p l e s m args below meth c D ca ad A Q k) Q (b_L_law_1094 b L xs) ls st M → LJ p l e s m args below meth c D ca ad A Q k 1094 ls st M := s_il C0 (d_L_law_1094) (hgl rfl) (s_zne C0 (d_L_law_1096) (by decide) (hgl rfl) (hgl rfl) (fun _ _ _ h => h) (s_aln C0 (d_L_law_1099) (hgl rfl) (s_ic C0 (d_L_law_1100) (hgl rfl) (s_la C0 (d_L_law_1101) (hgl rfl) (s_il C0 (d_L_law_1102) (hgl rfl) (s_i2l C0 (d_L_law_1104) (hgl rfl) (s_lcmp C0 (d_L_law_1105) (hgl rfl) (s_zeq C0 (d_L_law_1106) (by decide) (hgl rfl) (hgl rfl) (fun _ _ _ h => h) (s_ic C0 (d_L_law_1109) (hgl rfl) (s_rz C0 hr (d_L_law_1110) (hfr hk)) (okn rfl))))))) (okn rfl))))
theorem d_L_law_1111 : decode cL_law 1111 = .ok (.goto 720, 3) := by decide +kernel
set_option maxRecDepth 100000 in
theorem lb_1111 {p : Program} {l : Launch} {e : Env} {s : State} {m : MethodId} {args : Array Value} {below : List Frame} {meth : Method} {c : Code} {D : va_G} {ca : Nat → ClassId} {ad sx sy : Nat → Nat} {A : Nat → Prop} {Q : QT} {b L k : Nat} {xs : Nat → Int32} (hl0 : l.stackTraces = false) (hk : k < 600) (C0 : CX p s m args meth c cL_law 7 yL_law.cls D ca ad A) (hE : EX sx sy A s s.heap) (hr : meth.sig.returnType = some .boolean) (hno : ∀ x ∈ c.exceptionTable.toList, False) (hX : va_X b L xs s s.heap) (hbl : b < s.heap.size) (hbA : ¬ A b) (hL : L < 2147483648) : ∀ ls st M, wpl (LJ p l e s m args below meth c D ca ad A Q k) Q (b_L_law_1111 b L xs) ls st M → LJ p l e s m args below meth c D ca ad A Q k 1111 ls st M := s_goto C0 (tgt := 1831) (d_L_law_1111) (by decide) (hgl rfl) (fun _ _ _ h => h)
theorem wg1562 : Cond.code ⟨"WeighedHallModel", "decides", "(I)I"⟩ prog_13_method_57_code 3 (Option.some .int) ∈ GT := gt_mem 1682 (by decide +kernel) rfl
theorem wg1559 : Cond.methodLink "WeighedHallLaw" 147 ⟨"WeighedHallModel", "decides", "(I)I"⟩ ∈ GT := gt_mem 1679 (by decide +kernel) rfl
theorem wg1560 : Cond.instanceMethod ⟨"WeighedHallModel", "decides", "(I)I"⟩ ∈ GT := gt_mem 1680 (by decide +kernel) rfl
theorem wg1561 : Cond.selects "WeighedHallModel" ⟨"WeighedHallModel", "decides", "(I)I"⟩ ⟨"WeighedHallModel", "decides", "(I)I"⟩ ∈ GT := gt_mem 1681 (by decide +kernel) rfl
theorem wg1043 : Cond.codeWith ⟨"WeighedHallLaw", "decides", "(LWeighedHall;I[J)I"⟩ method_16_code 4 (Option.some .int) [(0, 9, 12, 25)] ∈ GT := gt_mem 1163 (by decide +kernel) rfl
theorem wg1041 : Cond.methodLink "WeighedHallLaw" 145 ⟨"WeighedHallLaw", "decides", "(LWeighedHall;I[J)I"⟩ ∈ GT := gt_mem 1161 (by decide +kernel) rfl
theorem wg1042 : Cond.static ⟨"WeighedHallLaw", "decides", "(LWeighedHall;I[J)I"⟩ ∈ GT := gt_mem 1162 (by decide +kernel) rfl
theorem d_L_law_1114 : decode cL_law 1114 = .ok (.aload_n 1, 1) := by decide +kernel
theorem d_L_law_1115 : decode cL_law 1115 = .ok (.aload_n 0, 1) := by decide +kernel
theorem d_L_law_1116 : decode cL_law 1116 = .ok (.iload 4, 2) := by decide +kernel
theorem d_L_law_1118 : decode cL_law 1118 = .ok (.iconst 1, 1) := by decide +kernel
theorem d_L_law_1119 : decode cL_law 1119 = .ok (.iadd, 1) := by decide +kernel
theorem d_L_law_1120 : decode cL_law 1120 = .ok (.iaload, 1) := by decide +kernel
theorem d_L_law_1121 : decode cL_law 1121 = .ok (.aload_n 3, 1) := by decide +kernel
theorem d_L_law_1122 : decode cL_law 1122 = .ok (.invokestatic 145, 3) := by decide +kernel
theorem d_L_law_1125 : decode cL_law 1125 = .ok (.istore 5, 2) := by decide +kernel
theorem d_L_law_1127 : decode cL_law 1127 = .ok (.aload_n 2, 1) := by decide +kernel
theorem d_L_law_1128 : decode cL_law 1128 = .ok (.aload_n 0, 1) := by decide +kernel
theorem d_L_law_1129 : decode cL_law 1129 = .ok (.iload 4, 2) := by decide +kernel
theorem d_L_law_1131 : decode cL_law 1131 = .ok (.iconst 1, 1) := by decide +kernel
theorem d_L_law_1132 : decode cL_law 1132 = .ok (.iadd, 1) := by decide +kernel
theorem d_L_law_1133 : decode cL_law 1133 = .ok (.iaload, 1) := by decide +kernel
theorem d_L_law_1134 : decode cL_law 1134 = .ok (.invokevirtual 147, 3) := by decide +kernel
theorem d_L_law_1137 : decode cL_law 1137 = .ok (.istore 6, 2) := by decide +kernel
theorem d_L_law_1139 : decode cL_law 1139 = .ok (.aload_n 2, 1) := by decide +kernel
theorem d_L_law_1140 : decode cL_law 1140 = .ok (.invokevirtual 99, 3) := by decide +kernel
theorem d_L_law_1143 : decode cL_law 1143 = .ok (.iload 5, 2) := by decide +kernel
theorem d_L_law_1145 : decode cL_law 1145 = .ok (.if_icmp .eq 5, 3) := by decide +kernel
theorem d_L_law_1148 : decode cL_law 1148 = .ok (.iconst 0, 1) := by decide +kernel
theorem d_L_law_1149 : decode cL_law 1149 = .ok (.ireturn, 1) := by decide +kernel
set_option maxRecDepth 100000 in
theorem lb_1114 {p : Program} {l : Launch} {e : Env} {s : State} {m : MethodId} {args : Array Value} {below : List Frame} {meth : Method} {c : Code} {D : va_G} {ca : Nat → ClassId} {ad sx sy : Nat → Nat} {A : Nat → Prop} {Q : QT} {b L k : Nat} {xs : Nat → Int32} (hl0 : l.stackTraces = false) (hk : k < 600) (C0 : CX p s m args meth c cL_law 7 yL_law.cls D ca ad A) (hE : EX sx sy A s s.heap) (hr : meth.sig.returnType = some .boolean) (hno : ∀ x ∈ c.exceptionTable.toList, False) (hX : va_X b L xs s s.heap) (hbl : b < s.heap.size) (hbA : ¬ A b) (hL : L < 2147483648) : ∀ ls st M, wpl (LJ p l e s m args below meth c D ca ad A Q k) Q (b_L_law_1114 b L xs) ls st M → LJ p l e s m args below meth c D ca ad A Q k 1114 ls st M := s_aln C0 (d_L_law_1114) (hgl rfl) (s_aln C0 (d_L_law_1115) (hgl rfl) (s_il C0 (d_L_law_1116) (hgl rfl) (s_ic C0 (d_L_law_1118) (hgl rfl) (s_add C0 (d_L_law_1119) (hgl rfl) (s_scr C0 hX hbl hbA (d_L_law_1120) (hgl rfl) (s_aln C0 (d_L_law_1121) (hgl rfl) (s_callSH C0 hE (c_L_decides l hl0) wg1043 wg1041 wg1042 wg0 ⟨by decide, by decide⟩ (by decide +kernel) ⟨by decide, by decide⟩ (hfl hk rfl) (d_L_law_1122) (fun x hx => (hno x hx).elim) (hgc rfl rfl rfl) (hfl hk rfl) (s_is C0 (d_L_law_1125) (hgl rfl) (s_aln C0 (d_L_law_1127) (hgl rfl) (s_aln C0 (d_L_law_1128) (hgl rfl) (s_il C0 (d_L_law_1129) (hgl rfl) (s_ic C0 (d_L_law_1131) (hgl rfl) (s_add C0 (d_L_law_1132) (hgl rfl) (s_scr C0 hX hbl hbA (d_L_law_1133) (hgl rfl) (s_callV C0 hE (c_X11_decides l) wg1562 wg1559 wg1560 wg1561 wg12 ⟨by decide, by decide⟩ (by decide +kernel) (c0 := 11) rfl ⟨by decide, by decide⟩ (hfl hk rfl) (d_L_law_1134) (fun x hx => (hno x hx).elim) (hgc0 rfl) (hfl hk rfl) (s_is C0 (d_L_law_1137) (hgl rfl) (s_aln C0 (d_L_law_1139) (hgl rfl) (s_callV C0 hE (c_X11_thrown l) wg1344 wg1341 wg1342 wg1343 wg12 ⟨by decide, by decide⟩ (by decide +kernel) (c0 := 11) rfl ⟨by decide, by decide⟩ (hfl hk rfl) (d_L_law_1140) (fun x hx => (hno x hx).elim) (hgc0 rfl) (hfl hk rfl) (s_il C0 (d_L_law_1143) (hgl rfl) (s_ceq C0 (d_L_law_1145) (by decide) (hgl rfl) (hgl rfl) (fun _ _ _ h => h) (s_ic C0 (d_L_law_1148) (hgl rfl) (s_rz C0 hr (d_L_law_1149) (hfr hk)) (okn rfl)))))))))) (okn rfl)))))))))) (okn rfl))))
theorem d_L_law_1150 : decode cL_law 1150 = .ok (.iload 5, 2) := by decide +kernel
theorem d_L_law_1152 : decode cL_law 1152 = .ok (.ifCond .ne 15, 3) := by decide +kernel
theorem d_L_law_1155 : decode cL_law 1155 = .ok (.aload_n 3, 1) := by decide +kernel
theorem d_L_law_1156 : decode cL_law 1156 = .ok (.iconst 0, 1) := by decide +kernel
theorem d_L_law_1157 : decode cL_law 1157 = .ok (.laload, 1) := by decide +kernel
theorem d_L_law_1158 : decode cL_law 1158 = .ok (.iload 6, 2) := by decide +kernel
theorem d_L_law_1160 : decode cL_law 1160 = .ok (.i2l, 1) := by decide +kernel
theorem d_L_law_1161 : decode cL_law 1161 = .ok (.lcmp, 1) := by decide +kernel
theorem d_L_law_1162 : decode cL_law 1162 = .ok (.ifCond .eq 5, 3) := by decide +kernel
theorem d_L_law_1165 : decode cL_law 1165 = .ok (.iconst 0, 1) := by decide +kernel
theorem d_L_law_1166 : decode cL_law 1166 = .ok (.ireturn, 1) := by decide +kernel
set_option maxRecDepth 100000 in
theorem lb_1150 {p : Program} {l : Launch} {e : Env} {s : State} {m : MethodId} {args : Array Value} {below : List Frame} {meth : Method} {c : Code} {D : va_G} {ca : Nat → ClassId} {ad sx sy : Nat → Nat} {A : Nat → Prop} {Q : QT} {b L k : Nat} {xs : Nat → Int32} (hl0 : l.stackTraces = false) (hk : k < 600) (C0 : CX p s m args meth c cL_law 7 yL_law.cls D ca ad A) (hE : EX sx sy A s s.heap) (hr : meth.sig.returnType = some .boolean) (hno : ∀ x ∈ c.exceptionTable.toList, False) (hX : va_X b L xs s s.heap) (hbl : b < s.heap.size) (hbA : ¬ A b) (hL : L < 2147483648) : ∀ ls st M, wpl (LJ p l e s m args below meth c D ca ad A Q k) Q (b_L_law_1150 b L xs) ls st M → LJ p l e s m args below meth c D ca ad A Q k 1150 ls st M := s_il C0 (d_L_law_1150) (hgl rfl) (s_zne C0 (d_L_law_1152) (by decide) (hgl rfl) (hgl rfl) (fun _ _ _ h => h) (s_aln C0 (d_L_law_1155) (hgl rfl) (s_ic C0 (d_L_law_1156) (hgl rfl) (s_la C0 (d_L_law_1157) (hgl rfl) (s_il C0 (d_L_law_1158) (hgl rfl) (s_i2l C0 (d_L_law_1160) (hgl rfl) (s_lcmp C0 (d_L_law_1161) (hgl rfl) (s_zeq C0 (d_L_law_1162) (by decide) (hgl rfl) (hgl rfl) (fun _ _ _ h => h) (s_ic C0 (d_L_law_1165) (hgl rfl) (s_rz C0 hr (d_L_law_1166) (hfr hk)) (okn rfl))))))) (okn rfl))))
theorem d_L_law_1167 : decode cL_law 1167 = .ok (.goto 664, 3) := by decide +kernel
set_option maxRecDepth 100000 in
theorem lb_1167 {p : Program} {l : Launch} {e : Env} {s : State} {m : MethodId} {args : Array Value} {below : List Frame} {meth : Method} {c : Code} {D : va_G} {ca : Nat → ClassId} {ad sx sy : Nat → Nat} {A : Nat → Prop} {Q : QT} {b L k : Nat} {xs : Nat → Int32} (hl0 : l.stackTraces = false) (hk : k < 600) (C0 : CX p s m args meth c cL_law 7 yL_law.cls D ca ad A) (hE : EX sx sy A s s.heap) (hr : meth.sig.returnType = some .boolean) (hno : ∀ x ∈ c.exceptionTable.toList, False) (hX : va_X b L xs s s.heap) (hbl : b < s.heap.size) (hbA : ¬ A b) (hL : L < 2147483648) : ∀ ls st M, wpl (LJ p l e s m args below meth c D ca ad A Q k) Q (b_L_law_1167 b L xs) ls st M → LJ p l e s m args below meth c D ca ad A Q k 1167 ls st M := s_goto C0 (tgt := 1831) (d_L_law_1167) (by decide) (hgl rfl) (fun _ _ _ h => h)
theorem wg1566 : Cond.code ⟨"WeighedHallModel", "power", "(I)I"⟩ prog_13_method_60_code 2 (Option.some .int) ∈ GT := gt_mem 1686 (by decide +kernel) rfl
theorem wg1563 : Cond.methodLink "WeighedHallLaw" 150 ⟨"WeighedHallModel", "power", "(I)I"⟩ ∈ GT := gt_mem 1683 (by decide +kernel) rfl
theorem wg1564 : Cond.instanceMethod ⟨"WeighedHallModel", "power", "(I)I"⟩ ∈ GT := gt_mem 1684 (by decide +kernel) rfl
theorem wg1565 : Cond.selects "WeighedHallModel" ⟨"WeighedHallModel", "power", "(I)I"⟩ ⟨"WeighedHallModel", "power", "(I)I"⟩ ∈ GT := gt_mem 1685 (by decide +kernel) rfl
theorem wg1062 : Cond.codeWith ⟨"WeighedHallLaw", "power", "(LWeighedHall;I[J)I"⟩ method_17_code 4 (Option.some .int) [(0, 9, 12, 25)] ∈ GT := gt_mem 1182 (by decide +kernel) rfl
theorem wg1060 : Cond.methodLink "WeighedHallLaw" 148 ⟨"WeighedHallLaw", "power", "(LWeighedHall;I[J)I"⟩ ∈ GT := gt_mem 1180 (by decide +kernel) rfl
theorem wg1061 : Cond.static ⟨"WeighedHallLaw", "power", "(LWeighedHall;I[J)I"⟩ ∈ GT := gt_mem 1181 (by decide +kernel) rfl
theorem d_L_law_1170 : decode cL_law 1170 = .ok (.aload_n 1, 1) := by decide +kernel
theorem d_L_law_1171 : decode cL_law 1171 = .ok (.aload_n 0, 1) := by decide +kernel
theorem d_L_law_1172 : decode cL_law 1172 = .ok (.iload 4, 2) := by decide +kernel
theorem d_L_law_1174 : decode cL_law 1174 = .ok (.iconst 1, 1) := by decide +kernel
theorem d_L_law_1175 : decode cL_law 1175 = .ok (.iadd, 1) := by decide +kernel
theorem d_L_law_1176 : decode cL_law 1176 = .ok (.iaload, 1) := by decide +kernel
theorem d_L_law_1177 : decode cL_law 1177 = .ok (.aload_n 3, 1) := by decide +kernel
theorem d_L_law_1178 : decode cL_law 1178 = .ok (.invokestatic 148, 3) := by decide +kernel
theorem d_L_law_1181 : decode cL_law 1181 = .ok (.istore 5, 2) := by decide +kernel
theorem d_L_law_1183 : decode cL_law 1183 = .ok (.aload_n 2, 1) := by decide +kernel
theorem d_L_law_1184 : decode cL_law 1184 = .ok (.aload_n 0, 1) := by decide +kernel
theorem d_L_law_1185 : decode cL_law 1185 = .ok (.iload 4, 2) := by decide +kernel
theorem d_L_law_1187 : decode cL_law 1187 = .ok (.iconst 1, 1) := by decide +kernel
theorem d_L_law_1188 : decode cL_law 1188 = .ok (.iadd, 1) := by decide +kernel
theorem d_L_law_1189 : decode cL_law 1189 = .ok (.iaload, 1) := by decide +kernel
theorem d_L_law_1190 : decode cL_law 1190 = .ok (.invokevirtual 150, 3) := by decide +kernel
theorem d_L_law_1193 : decode cL_law 1193 = .ok (.istore 6, 2) := by decide +kernel
theorem d_L_law_1195 : decode cL_law 1195 = .ok (.aload_n 2, 1) := by decide +kernel
theorem d_L_law_1196 : decode cL_law 1196 = .ok (.invokevirtual 99, 3) := by decide +kernel
theorem d_L_law_1199 : decode cL_law 1199 = .ok (.iload 5, 2) := by decide +kernel
theorem d_L_law_1201 : decode cL_law 1201 = .ok (.if_icmp .eq 5, 3) := by decide +kernel
theorem d_L_law_1204 : decode cL_law 1204 = .ok (.iconst 0, 1) := by decide +kernel
theorem d_L_law_1205 : decode cL_law 1205 = .ok (.ireturn, 1) := by decide +kernel
set_option maxRecDepth 100000 in
theorem lb_1170 {p : Program} {l : Launch} {e : Env} {s : State} {m : MethodId} {args : Array Value} {below : List Frame} {meth : Method} {c : Code} {D : va_G} {ca : Nat → ClassId} {ad sx sy : Nat → Nat} {A : Nat → Prop} {Q : QT} {b L k : Nat} {xs : Nat → Int32} (hl0 : l.stackTraces = false) (hk : k < 600) (C0 : CX p s m args meth c cL_law 7 yL_law.cls D ca ad A) (hE : EX sx sy A s s.heap) (hr : meth.sig.returnType = some .boolean) (hno : ∀ x ∈ c.exceptionTable.toList, False) (hX : va_X b L xs s s.heap) (hbl : b < s.heap.size) (hbA : ¬ A b) (hL : L < 2147483648) : ∀ ls st M, wpl (LJ p l e s m args below meth c D ca ad A Q k) Q (b_L_law_1170 b L xs) ls st M → LJ p l e s m args below meth c D ca ad A Q k 1170 ls st M := s_aln C0 (d_L_law_1170) (hgl rfl) (s_aln C0 (d_L_law_1171) (hgl rfl) (s_il C0 (d_L_law_1172) (hgl rfl) (s_ic C0 (d_L_law_1174) (hgl rfl) (s_add C0 (d_L_law_1175) (hgl rfl) (s_scr C0 hX hbl hbA (d_L_law_1176) (hgl rfl) (s_aln C0 (d_L_law_1177) (hgl rfl) (s_callSH C0 hE (c_L_power l hl0) wg1062 wg1060 wg1061 wg0 ⟨by decide, by decide⟩ (by decide +kernel) ⟨by decide, by decide⟩ (hfl hk rfl) (d_L_law_1178) (fun x hx => (hno x hx).elim) (hgc rfl rfl rfl) (hfl hk rfl) (s_is C0 (d_L_law_1181) (hgl rfl) (s_aln C0 (d_L_law_1183) (hgl rfl) (s_aln C0 (d_L_law_1184) (hgl rfl) (s_il C0 (d_L_law_1185) (hgl rfl) (s_ic C0 (d_L_law_1187) (hgl rfl) (s_add C0 (d_L_law_1188) (hgl rfl) (s_scr C0 hX hbl hbA (d_L_law_1189) (hgl rfl) (s_callV C0 hE (c_X11_power l) wg1566 wg1563 wg1564 wg1565 wg12 ⟨by decide, by decide⟩ (by decide +kernel) (c0 := 11) rfl ⟨by decide, by decide⟩ (hfl hk rfl) (d_L_law_1190) (fun x hx => (hno x hx).elim) (hgc0 rfl) (hfl hk rfl) (s_is C0 (d_L_law_1193) (hgl rfl) (s_aln C0 (d_L_law_1195) (hgl rfl) (s_callV C0 hE (c_X11_thrown l) wg1344 wg1341 wg1342 wg1343 wg12 ⟨by decide, by decide⟩ (by decide +kernel) (c0 := 11) rfl ⟨by decide, by decide⟩ (hfl hk rfl) (d_L_law_1196) (fun x hx => (hno x hx).elim) (hgc0 rfl) (hfl hk rfl) (s_il C0 (d_L_law_1199) (hgl rfl) (s_ceq C0 (d_L_law_1201) (by decide) (hgl rfl) (hgl rfl) (fun _ _ _ h => h) (s_ic C0 (d_L_law_1204) (hgl rfl) (s_rz C0 hr (d_L_law_1205) (hfr hk)) (okn rfl)))))))))) (okn rfl)))))))))) (okn rfl))))
theorem d_L_law_1206 : decode cL_law 1206 = .ok (.iload 5, 2) := by decide +kernel
theorem d_L_law_1208 : decode cL_law 1208 = .ok (.ifCond .ne 15, 3) := by decide +kernel
theorem d_L_law_1211 : decode cL_law 1211 = .ok (.aload_n 3, 1) := by decide +kernel
theorem d_L_law_1212 : decode cL_law 1212 = .ok (.iconst 0, 1) := by decide +kernel
theorem d_L_law_1213 : decode cL_law 1213 = .ok (.laload, 1) := by decide +kernel
theorem d_L_law_1214 : decode cL_law 1214 = .ok (.iload 6, 2) := by decide +kernel
theorem d_L_law_1216 : decode cL_law 1216 = .ok (.i2l, 1) := by decide +kernel
theorem d_L_law_1217 : decode cL_law 1217 = .ok (.lcmp, 1) := by decide +kernel
theorem d_L_law_1218 : decode cL_law 1218 = .ok (.ifCond .eq 5, 3) := by decide +kernel
theorem d_L_law_1221 : decode cL_law 1221 = .ok (.iconst 0, 1) := by decide +kernel
theorem d_L_law_1222 : decode cL_law 1222 = .ok (.ireturn, 1) := by decide +kernel
set_option maxRecDepth 100000 in
theorem lb_1206 {p : Program} {l : Launch} {e : Env} {s : State} {m : MethodId} {args : Array Value} {below : List Frame} {meth : Method} {c : Code} {D : va_G} {ca : Nat → ClassId} {ad sx sy : Nat → Nat} {A : Nat → Prop} {Q : QT} {b L k : Nat} {xs : Nat → Int32} (hl0 : l.stackTraces = false) (hk : k < 600) (C0 : CX p s m args meth c cL_law 7 yL_law.cls D ca ad A) (hE : EX sx sy A s s.heap) (hr : meth.sig.returnType = some .boolean) (hno : ∀ x ∈ c.exceptionTable.toList, False) (hX : va_X b L xs s s.heap) (hbl : b < s.heap.size) (hbA : ¬ A b) (hL : L < 2147483648) : ∀ ls st M, wpl (LJ p l e s m args below meth c D ca ad A Q k) Q (b_L_law_1206 b L xs) ls st M → LJ p l e s m args below meth c D ca ad A Q k 1206 ls st M := s_il C0 (d_L_law_1206) (hgl rfl) (s_zne C0 (d_L_law_1208) (by decide) (hgl rfl) (hgl rfl) (fun _ _ _ h => h) (s_aln C0 (d_L_law_1211) (hgl rfl) (s_ic C0 (d_L_law_1212) (hgl rfl) (s_la C0 (d_L_law_1213) (hgl rfl) (s_il C0 (d_L_law_1214) (hgl rfl) (s_i2l C0 (d_L_law_1216) (hgl rfl) (s_lcmp C0 (d_L_law_1217) (hgl rfl) (s_zeq C0 (d_L_law_1218) (by decide) (hgl rfl) (hgl rfl) (fun _ _ _ h => h) (s_ic C0 (d_L_law_1221) (hgl rfl) (s_rz C0 hr (d_L_law_1222) (hfr hk)) (okn rfl))))))) (okn rfl))))
theorem d_L_law_1223 : decode cL_law 1223 = .ok (.goto 608, 3) := by decide +kernel
set_option maxRecDepth 100000 in
theorem lb_1223 {p : Program} {l : Launch} {e : Env} {s : State} {m : MethodId} {args : Array Value} {below : List Frame} {meth : Method} {c : Code} {D : va_G} {ca : Nat → ClassId} {ad sx sy : Nat → Nat} {A : Nat → Prop} {Q : QT} {b L k : Nat} {xs : Nat → Int32} (hl0 : l.stackTraces = false) (hk : k < 600) (C0 : CX p s m args meth c cL_law 7 yL_law.cls D ca ad A) (hE : EX sx sy A s s.heap) (hr : meth.sig.returnType = some .boolean) (hno : ∀ x ∈ c.exceptionTable.toList, False) (hX : va_X b L xs s s.heap) (hbl : b < s.heap.size) (hbA : ¬ A b) (hL : L < 2147483648) : ∀ ls st M, wpl (LJ p l e s m args below meth c D ca ad A Q k) Q (b_L_law_1223 b L xs) ls st M → LJ p l e s m args below meth c D ca ad A Q k 1223 ls st M := s_goto C0 (tgt := 1831) (d_L_law_1223) (by decide) (hgl rfl) (fun _ _ _ h => h)
theorem wg1578 : Cond.code ⟨"WeighedHallModel", "powers", "()I"⟩ prog_13_method_61_code 3 (Option.some .int) ∈ GT := gt_mem 1698 (by decide +kernel) rfl
theorem wg1575 : Cond.methodLink "WeighedHallLaw" 154 ⟨"WeighedHallModel", "powers", "()I"⟩ ∈ GT := gt_mem 1695 (by decide +kernel) rfl
theorem wg1576 : Cond.instanceMethod ⟨"WeighedHallModel", "powers", "()I"⟩ ∈ GT := gt_mem 1696 (by decide +kernel) rfl
theorem wg1577 : Cond.selects "WeighedHallModel" ⟨"WeighedHallModel", "powers", "()I"⟩ ⟨"WeighedHallModel", "powers", "()I"⟩ ∈ GT := gt_mem 1697 (by decide +kernel) rfl
theorem wg463 : Cond.code ⟨"WeighedHall", "powers", "()I"⟩ prog_1_method_19_code 3 (Option.some .int) ∈ GT := gt_mem 583 (by decide +kernel) rfl
theorem wg460 : Cond.methodLink "WeighedHallLaw" 151 ⟨"WeighedHall", "powers", "()I"⟩ ∈ GT := gt_mem 580 (by decide +kernel) rfl
theorem wg461 : Cond.instanceMethod ⟨"WeighedHall", "powers", "()I"⟩ ∈ GT := gt_mem 581 (by decide +kernel) rfl
theorem wg462 : Cond.selects "WeighedHall" ⟨"WeighedHall", "powers", "()I"⟩ ⟨"WeighedHall", "powers", "()I"⟩ ∈ GT := gt_mem 582 (by decide +kernel) rfl
theorem d_L_law_1226 : decode cL_law 1226 = .ok (.aload_n 1, 1) := by decide +kernel
theorem d_L_law_1227 : decode cL_law 1227 = .ok (.invokevirtual 151, 3) := by decide +kernel
theorem d_L_law_1230 : decode cL_law 1230 = .ok (.aload_n 2, 1) := by decide +kernel
theorem d_L_law_1231 : decode cL_law 1231 = .ok (.invokevirtual 154, 3) := by decide +kernel
theorem d_L_law_1234 : decode cL_law 1234 = .ok (.if_icmp .eq 597, 3) := by decide +kernel
theorem d_L_law_1237 : decode cL_law 1237 = .ok (.iconst 0, 1) := by decide +kernel
theorem d_L_law_1238 : decode cL_law 1238 = .ok (.ireturn, 1) := by decide +kernel
set_option maxRecDepth 100000 in
theorem lb_1226 {p : Program} {l : Launch} {e : Env} {s : State} {m : MethodId} {args : Array Value} {below : List Frame} {meth : Method} {c : Code} {D : va_G} {ca : Nat → ClassId} {ad sx sy : Nat → Nat} {A : Nat → Prop} {Q : QT} {b L k : Nat} {xs : Nat → Int32} (hl0 : l.stackTraces = false) (hk : k < 600) (C0 : CX p s m args meth c cL_law 7 yL_law.cls D ca ad A) (hE : EX sx sy A s s.heap) (hr : meth.sig.returnType = some .boolean) (hno : ∀ x ∈ c.exceptionTable.toList, False) (hX : va_X b L xs s s.heap) (hbl : b < s.heap.size) (hbA : ¬ A b) (hL : L < 2147483648) : ∀ ls st M, wpl (LJ p l e s m args below meth c D ca ad A Q k) Q (b_L_law_1226 b L xs) ls st M → LJ p l e s m args below meth c D ca ad A Q k 1226 ls st M := s_aln C0 (d_L_law_1226) (hgl rfl) (s_callV C0 hE (c_X10_powers l) wg463 wg460 wg461 wg462 wg1 ⟨by decide, by decide⟩ (by decide +kernel) (c0 := 10) rfl ⟨by decide, by decide⟩ (hfl hk rfl) (d_L_law_1227) (fun x hx => (hno x hx).elim) (hgc0 rfl) (hfl hk rfl) (s_aln C0 (d_L_law_1230) (hgl rfl) (s_callV C0 hE (c_X11_powers l) wg1578 wg1575 wg1576 wg1577 wg12 ⟨by decide, by decide⟩ (by decide +kernel) (c0 := 11) rfl ⟨by decide, by decide⟩ (hfl hk rfl) (d_L_law_1231) (fun x hx => (hno x hx).elim) (hgc0 rfl) (hfl hk rfl) (s_ceq C0 (d_L_law_1234) (by decide) (hgl rfl) (hgl rfl) (fun _ _ _ h => h) (s_ic C0 (d_L_law_1237) (hgl rfl) (s_rz C0 hr (d_L_law_1238) (hfr hk)) (okn rfl))))))
theorem wg1582 : Cond.code ⟨"WeighedHallModel", "wins", "(I)Z"⟩ prog_13_method_63_code 2 (Option.some .boolean) ∈ GT := gt_mem 1702 (by decide +kernel) rfl
theorem wg1579 : Cond.methodLink "WeighedHallLaw" 157 ⟨"WeighedHallModel", "wins", "(I)Z"⟩ ∈ GT := gt_mem 1699 (by decide +kernel) rfl
theorem wg1580 : Cond.instanceMethod ⟨"WeighedHallModel", "wins", "(I)Z"⟩ ∈ GT := gt_mem 1700 (by decide +kernel) rfl
theorem wg1581 : Cond.selects "WeighedHallModel" ⟨"WeighedHallModel", "wins", "(I)Z"⟩ ⟨"WeighedHallModel", "wins", "(I)Z"⟩ ∈ GT := gt_mem 1701 (by decide +kernel) rfl
theorem wg1069 : Cond.codeWith ⟨"WeighedHallLaw", "wins", "(LWeighedHall;I[J)I"⟩ method_18_code 4 (Option.some .int) [(0, 16, 19, 13)] ∈ GT := gt_mem 1189 (by decide +kernel) rfl
theorem wg1067 : Cond.methodLink "WeighedHallLaw" 155 ⟨"WeighedHallLaw", "wins", "(LWeighedHall;I[J)I"⟩ ∈ GT := gt_mem 1187 (by decide +kernel) rfl
theorem wg1068 : Cond.static ⟨"WeighedHallLaw", "wins", "(LWeighedHall;I[J)I"⟩ ∈ GT := gt_mem 1188 (by decide +kernel) rfl
theorem d_L_law_1239 : decode cL_law 1239 = .ok (.aload_n 1, 1) := by decide +kernel
theorem d_L_law_1240 : decode cL_law 1240 = .ok (.aload_n 0, 1) := by decide +kernel
theorem d_L_law_1241 : decode cL_law 1241 = .ok (.iload 4, 2) := by decide +kernel
theorem d_L_law_1243 : decode cL_law 1243 = .ok (.iconst 1, 1) := by decide +kernel
theorem d_L_law_1244 : decode cL_law 1244 = .ok (.iadd, 1) := by decide +kernel
theorem d_L_law_1245 : decode cL_law 1245 = .ok (.iaload, 1) := by decide +kernel
theorem d_L_law_1246 : decode cL_law 1246 = .ok (.aload_n 3, 1) := by decide +kernel
theorem d_L_law_1247 : decode cL_law 1247 = .ok (.invokestatic 155, 3) := by decide +kernel
theorem d_L_law_1250 : decode cL_law 1250 = .ok (.istore 5, 2) := by decide +kernel
theorem d_L_law_1252 : decode cL_law 1252 = .ok (.aload_n 2, 1) := by decide +kernel
theorem d_L_law_1253 : decode cL_law 1253 = .ok (.aload_n 0, 1) := by decide +kernel
theorem d_L_law_1254 : decode cL_law 1254 = .ok (.iload 4, 2) := by decide +kernel
theorem d_L_law_1256 : decode cL_law 1256 = .ok (.iconst 1, 1) := by decide +kernel
theorem d_L_law_1257 : decode cL_law 1257 = .ok (.iadd, 1) := by decide +kernel
theorem d_L_law_1258 : decode cL_law 1258 = .ok (.iaload, 1) := by decide +kernel
theorem d_L_law_1259 : decode cL_law 1259 = .ok (.invokevirtual 157, 3) := by decide +kernel
theorem d_L_law_1262 : decode cL_law 1262 = .ok (.istore 6, 2) := by decide +kernel
theorem d_L_law_1264 : decode cL_law 1264 = .ok (.aload_n 2, 1) := by decide +kernel
theorem d_L_law_1265 : decode cL_law 1265 = .ok (.invokevirtual 99, 3) := by decide +kernel
theorem d_L_law_1268 : decode cL_law 1268 = .ok (.iload 5, 2) := by decide +kernel
theorem d_L_law_1270 : decode cL_law 1270 = .ok (.if_icmp .eq 5, 3) := by decide +kernel
theorem d_L_law_1273 : decode cL_law 1273 = .ok (.iconst 0, 1) := by decide +kernel
theorem d_L_law_1274 : decode cL_law 1274 = .ok (.ireturn, 1) := by decide +kernel
set_option maxRecDepth 100000 in
theorem lb_1239 {p : Program} {l : Launch} {e : Env} {s : State} {m : MethodId} {args : Array Value} {below : List Frame} {meth : Method} {c : Code} {D : va_G} {ca : Nat → ClassId} {ad sx sy : Nat → Nat} {A : Nat → Prop} {Q : QT} {b L k : Nat} {xs : Nat → Int32} (hl0 : l.stackTraces = false) (hk : k < 600) (C0 : CX p s m args meth c cL_law 7 yL_law.cls D ca ad A) (hE : EX sx sy A s s.heap) (hr : meth.sig.returnType = some .boolean) (hno : ∀ x ∈ c.exceptionTable.toList, False) (hX : va_X b L xs s s.heap) (hbl : b < s.heap.size) (hbA : ¬ A b) (hL : L < 2147483648) : ∀ ls st M, wpl (LJ p l e s m args below meth c D ca ad A Q k) Q (b_L_law_1239 b L xs) ls st M → LJ p l e s m args below meth c D ca ad A Q k 1239 ls st M := s_aln C0 (d_L_law_1239) (hgl rfl) (s_aln C0 (d_L_law_1240) (hgl rfl) (s_il C0 (d_L_law_1241) (hgl rfl) (s_ic C0 (d_L_law_1243) (hgl rfl) (s_add C0 (d_L_law_1244) (hgl rfl) (s_scr C0 hX hbl hbA (d_L_law_1245) (hgl rfl) (s_aln C0 (d_L_law_1246) (hgl rfl) (s_callSH C0 hE (c_L_wins l hl0) wg1069 wg1067 wg1068 wg0 ⟨by decide, by decide⟩ (by decide +kernel) ⟨by decide, by decide⟩ (hfl hk rfl) (d_L_law_1247) (fun x hx => (hno x hx).elim) (hgc rfl rfl rfl) (hfl hk rfl) (s_is C0 (d_L_law_1250) (hgl rfl) (s_aln C0 (d_L_law_1252) (hgl rfl) (s_aln C0 (d_L_law_1253) (hgl rfl) (s_il C0 (d_L_law_1254) (hgl rfl) (s_ic C0 (d_L_law_1256) (hgl rfl) (s_add C0 (d_L_law_1257) (hgl rfl) (s_scr C0 hX hbl hbA (d_L_law_1258) (hgl rfl) (s_callV C0 hE (c_X11_wins l) wg1582 wg1579 wg1580 wg1581 wg12 ⟨by decide, by decide⟩ (by decide +kernel) (c0 := 11) rfl ⟨by decide, by decide⟩ (hfl hk rfl) (d_L_law_1259) (fun x hx => (hno x hx).elim) (hgc0 rfl) (hfl hk rfl) (s_is C0 (d_L_law_1262) (hgl rfl) (s_aln C0 (d_L_law_1264) (hgl rfl) (s_callV C0 hE (c_X11_thrown l) wg1344 wg1341 wg1342 wg1343 wg12 ⟨by decide, by decide⟩ (by decide +kernel) (c0 := 11) rfl ⟨by decide, by decide⟩ (hfl hk rfl) (d_L_law_1265) (fun x hx => (hno x hx).elim) (hgc0 rfl) (hfl hk rfl) (s_il C0 (d_L_law_1268) (hgl rfl) (s_ceq C0 (d_L_law_1270) (by decide) (hgl rfl) (hgl rfl) (fun _ _ _ h => h) (s_ic C0 (d_L_law_1273) (hgl rfl) (s_rz C0 hr (d_L_law_1274) (hfr hk)) (okn rfl)))))))))) (okn rfl)))))))))) (okn rfl))))
theorem d_L_law_1275 : decode cL_law 1275 = .ok (.iload 5, 2) := by decide +kernel
theorem d_L_law_1277 : decode cL_law 1277 = .ok (.ifCond .ne 22, 3) := by decide +kernel
theorem d_L_law_1280 : decode cL_law 1280 = .ok (.aload_n 3, 1) := by decide +kernel
theorem d_L_law_1281 : decode cL_law 1281 = .ok (.iconst 0, 1) := by decide +kernel
theorem d_L_law_1282 : decode cL_law 1282 = .ok (.laload, 1) := by decide +kernel
theorem d_L_law_1283 : decode cL_law 1283 = .ok (.iload 6, 2) := by decide +kernel
theorem d_L_law_1285 : decode cL_law 1285 = .ok (.ifCond .eq 7, 3) := by decide +kernel
theorem d_L_law_1288 : decode cL_law 1288 = .ok (.lconst 1, 1) := by decide +kernel
theorem d_L_law_1289 : decode cL_law 1289 = .ok (.goto 4, 3) := by decide +kernel
set_option maxRecDepth 100000 in
theorem lb_1275 {p : Program} {l : Launch} {e : Env} {s : State} {m : MethodId} {args : Array Value} {below : List Frame} {meth : Method} {c : Code} {D : va_G} {ca : Nat → ClassId} {ad sx sy : Nat → Nat} {A : Nat → Prop} {Q : QT} {b L k : Nat} {xs : Nat → Int32} (hl0 : l.stackTraces = false) (hk : k < 600) (C0 : CX p s m args meth c cL_law 7 yL_law.cls D ca ad A) (hE : EX sx sy A s s.heap) (hr : meth.sig.returnType = some .boolean) (hno : ∀ x ∈ c.exceptionTable.toList, False) (hX : va_X b L xs s s.heap) (hbl : b < s.heap.size) (hbA : ¬ A b) (hL : L < 2147483648) : ∀ ls st M, wpl (LJ p l e s m args below meth c D ca ad A Q k) Q (b_L_law_1275 b L xs) ls st M → LJ p l e s m args below meth c D ca ad A Q k 1275 ls st M := s_il C0 (d_L_law_1275) (hgl rfl) (s_zne C0 (d_L_law_1277) (by decide) (hgl rfl) (hgl rfl) (fun _ _ _ h => h) (s_aln C0 (d_L_law_1280) (hgl rfl) (s_ic C0 (d_L_law_1281) (hgl rfl) (s_la C0 (d_L_law_1282) (hgl rfl) (s_il C0 (d_L_law_1283) (hgl rfl) (s_zeq C0 (d_L_law_1285) (by decide) (hgl rfl) (hgl rfl) (fun _ _ _ h => h) (s_lcn C0 (d_L_law_1288) (hgl rfl) (s_goto C0 (tgt := 1293) (d_L_law_1289) (by decide) (hgl rfl) (fun _ _ _ h => h)) rfl (okn2 rfl))))) (okn rfl))))
theorem d_L_law_1292 : decode cL_law 1292 = .ok (.lconst 0, 1) := by decide +kernel
set_option maxRecDepth 100000 in
theorem lb_1292 {p : Program} {l : Launch} {e : Env} {s : State} {m : MethodId} {args : Array Value} {below : List Frame} {meth : Method} {c : Code} {D : va_G} {ca : Nat → ClassId} {ad sx sy : Nat → Nat} {A : Nat → Prop} {Q : QT} {b L k : Nat} {xs : Nat → Int32} (hl0 : l.stackTraces = false) (hk : k < 600) (C0 : CX p s m args meth c cL_law 7 yL_law.cls D ca ad A) (hE : EX sx sy A s s.heap) (hr : meth.sig.returnType = some .boolean) (hno : ∀ x ∈ c.exceptionTable.toList, False) (hX : va_X b L xs s s.heap) (hbl : b < s.heap.size) (hbA : ¬ A b) (hL : L < 2147483648) : ∀ ls st M, wpl (LJ p l e s m args below meth c D ca ad A Q k) Q (b_L_law_1292 b L xs) ls st M → LJ p l e s m args below meth c D ca ad A Q k 1292 ls st M := s_lcn C0 (d_L_law_1292) (hgl rfl) (fun _ _ _ h => h) rfl (okn2 rfl)
theorem d_L_law_1293 : decode cL_law 1293 = .ok (.lcmp, 1) := by decide +kernel
theorem d_L_law_1294 : decode cL_law 1294 = .ok (.ifCond .eq 5, 3) := by decide +kernel
theorem d_L_law_1297 : decode cL_law 1297 = .ok (.iconst 0, 1) := by decide +kernel
theorem d_L_law_1298 : decode cL_law 1298 = .ok (.ireturn, 1) := by decide +kernel
set_option maxRecDepth 100000 in
theorem lb_1293 {p : Program} {l : Launch} {e : Env} {s : State} {m : MethodId} {args : Array Value} {below : List Frame} {meth : Method} {c : Code} {D : va_G} {ca : Nat → ClassId} {ad sx sy : Nat → Nat} {A : Nat → Prop} {Q : QT} {b L k : Nat} {xs : Nat → Int32} (hl0 : l.stackTraces = false) (hk : k < 600) (C0 : CX p s m args meth c cL_law 7 yL_law.cls D ca ad A) (hE : EX sx sy A s s.heap) (hr : meth.sig.returnType = some .boolean) (hno : ∀ x ∈ c.exceptionTable.toList, False) (hX : va_X b L xs s s.heap) (hbl : b < s.heap.size) (hbA : ¬ A b) (hL : L < 2147483648) : ∀ ls st M, wpl (LJ p l e s m args below meth c D ca ad A Q k) Q (b_L_law_1293 b L xs) ls st M → LJ p l e s m args below meth c D ca ad A Q k 1293 ls st M := s_lcmp C0 (d_L_law_1293) (hgl rfl) (s_zeq C0 (d_L_law_1294) (by decide) (hgl rfl) (hgl rfl) (fun _ _ _ h => h) (s_ic C0 (d_L_law_1297) (hgl rfl) (s_rz C0 hr (d_L_law_1298) (hfr hk)) (okn rfl)))
theorem d_L_law_1299 : decode cL_law 1299 = .ok (.goto 532, 3) := by decide +kernel
set_option maxRecDepth 100000 in
theorem lb_1299 {p : Program} {l : Launch} {e : Env} {s : State} {m : MethodId} {args : Array Value} {below : List Frame} {meth : Method} {c : Code} {D : va_G} {ca : Nat → ClassId} {ad sx sy : Nat → Nat} {A : Nat → Prop} {Q : QT} {b L k : Nat} {xs : Nat → Int32} (hl0 : l.stackTraces = false) (hk : k < 600) (C0 : CX p s m args meth c cL_law 7 yL_law.cls D ca ad A) (hE : EX sx sy A s s.heap) (hr : meth.sig.returnType = some .boolean) (hno : ∀ x ∈ c.exceptionTable.toList, False) (hX : va_X b L xs s s.heap) (hbl : b < s.heap.size) (hbA : ¬ A b) (hL : L < 2147483648) : ∀ ls st M, wpl (LJ p l e s m args below meth c D ca ad A Q k) Q (b_L_law_1299 b L xs) ls st M → LJ p l e s m args below meth c D ca ad A Q k 1299 ls st M := s_goto C0 (tgt := 1831) (d_L_law_1299) (by decide) (hgl rfl) (fun _ _ _ h => h)
theorem wg1590 : Cond.code ⟨"WeighedHallModel", "owed", "(III)I"⟩ prog_13_method_65_code 9 (Option.some .int) ∈ GT := gt_mem 1710 (by decide +kernel) rfl
theorem wg1587 : Cond.methodLink "WeighedHallLaw" 160 ⟨"WeighedHallModel", "owed", "(III)I"⟩ ∈ GT := gt_mem 1707 (by decide +kernel) rfl
theorem wg1588 : Cond.instanceMethod ⟨"WeighedHallModel", "owed", "(III)I"⟩ ∈ GT := gt_mem 1708 (by decide +kernel) rfl
theorem wg1589 : Cond.selects "WeighedHallModel" ⟨"WeighedHallModel", "owed", "(III)I"⟩ ⟨"WeighedHallModel", "owed", "(III)I"⟩ ∈ GT := gt_mem 1709 (by decide +kernel) rfl
theorem wg1077 : Cond.codeWith ⟨"WeighedHallLaw", "owed", "(LWeighedHall;III[J)I"⟩ method_19_code 6 (Option.some .int) [(0, 12, 15, 13)] ∈ GT := gt_mem 1197 (by decide +kernel) rfl
theorem wg1075 : Cond.methodLink "WeighedHallLaw" 158 ⟨"WeighedHallLaw", "owed", "(LWeighedHall;III[J)I"⟩ ∈ GT := gt_mem 1195 (by decide +kernel) rfl
theorem wg1076 : Cond.static ⟨"WeighedHallLaw", "owed", "(LWeighedHall;III[J)I"⟩ ∈ GT := gt_mem 1196 (by decide +kernel) rfl
theorem d_L_law_1302 : decode cL_law 1302 = .ok (.aload_n 1, 1) := by decide +kernel
theorem d_L_law_1303 : decode cL_law 1303 = .ok (.aload_n 0, 1) := by decide +kernel
theorem d_L_law_1304 : decode cL_law 1304 = .ok (.iload 4, 2) := by decide +kernel
theorem d_L_law_1306 : decode cL_law 1306 = .ok (.iconst 1, 1) := by decide +kernel
theorem d_L_law_1307 : decode cL_law 1307 = .ok (.iadd, 1) := by decide +kernel
theorem d_L_law_1308 : decode cL_law 1308 = .ok (.iaload, 1) := by decide +kernel
theorem d_L_law_1309 : decode cL_law 1309 = .ok (.aload_n 0, 1) := by decide +kernel
theorem d_L_law_1310 : decode cL_law 1310 = .ok (.iload 4, 2) := by decide +kernel
theorem d_L_law_1312 : decode cL_law 1312 = .ok (.iconst 2, 1) := by decide +kernel
theorem d_L_law_1313 : decode cL_law 1313 = .ok (.iadd, 1) := by decide +kernel
theorem d_L_law_1314 : decode cL_law 1314 = .ok (.iaload, 1) := by decide +kernel
theorem d_L_law_1315 : decode cL_law 1315 = .ok (.aload_n 0, 1) := by decide +kernel
theorem d_L_law_1316 : decode cL_law 1316 = .ok (.iload 4, 2) := by decide +kernel
theorem d_L_law_1318 : decode cL_law 1318 = .ok (.iconst 3, 1) := by decide +kernel
theorem d_L_law_1319 : decode cL_law 1319 = .ok (.iadd, 1) := by decide +kernel
theorem d_L_law_1320 : decode cL_law 1320 = .ok (.iaload, 1) := by decide +kernel
theorem d_L_law_1321 : decode cL_law 1321 = .ok (.aload_n 3, 1) := by decide +kernel
theorem d_L_law_1322 : decode cL_law 1322 = .ok (.invokestatic 158, 3) := by decide +kernel
theorem d_L_law_1325 : decode cL_law 1325 = .ok (.istore 5, 2) := by decide +kernel
theorem d_L_law_1327 : decode cL_law 1327 = .ok (.aload_n 2, 1) := by decide +kernel
theorem d_L_law_1328 : decode cL_law 1328 = .ok (.aload_n 0, 1) := by decide +kernel
theorem d_L_law_1329 : decode cL_law 1329 = .ok (.iload 4, 2) := by decide +kernel
theorem d_L_law_1331 : decode cL_law 1331 = .ok (.iconst 1, 1) := by decide +kernel
theorem d_L_law_1332 : decode cL_law 1332 = .ok (.iadd, 1) := by decide +kernel
theorem d_L_law_1333 : decode cL_law 1333 = .ok (.iaload, 1) := by decide +kernel
theorem d_L_law_1334 : decode cL_law 1334 = .ok (.aload_n 0, 1) := by decide +kernel
theorem d_L_law_1335 : decode cL_law 1335 = .ok (.iload 4, 2) := by decide +kernel
theorem d_L_law_1337 : decode cL_law 1337 = .ok (.iconst 2, 1) := by decide +kernel
theorem d_L_law_1338 : decode cL_law 1338 = .ok (.iadd, 1) := by decide +kernel
theorem d_L_law_1339 : decode cL_law 1339 = .ok (.iaload, 1) := by decide +kernel
theorem d_L_law_1340 : decode cL_law 1340 = .ok (.aload_n 0, 1) := by decide +kernel
theorem d_L_law_1341 : decode cL_law 1341 = .ok (.iload 4, 2) := by decide +kernel
theorem d_L_law_1343 : decode cL_law 1343 = .ok (.iconst 3, 1) := by decide +kernel
theorem d_L_law_1344 : decode cL_law 1344 = .ok (.iadd, 1) := by decide +kernel
theorem d_L_law_1345 : decode cL_law 1345 = .ok (.iaload, 1) := by decide +kernel
theorem d_L_law_1346 : decode cL_law 1346 = .ok (.invokevirtual 160, 3) := by decide +kernel
theorem d_L_law_1349 : decode cL_law 1349 = .ok (.istore 6, 2) := by decide +kernel
theorem d_L_law_1351 : decode cL_law 1351 = .ok (.aload_n 2, 1) := by decide +kernel
theorem d_L_law_1352 : decode cL_law 1352 = .ok (.invokevirtual 99, 3) := by decide +kernel
theorem d_L_law_1355 : decode cL_law 1355 = .ok (.iload 5, 2) := by decide +kernel
theorem d_L_law_1357 : decode cL_law 1357 = .ok (.if_icmp .eq 5, 3) := by decide +kernel
theorem d_L_law_1360 : decode cL_law 1360 = .ok (.iconst 0, 1) := by decide +kernel
theorem d_L_law_1361 : decode cL_law 1361 = .ok (.ireturn, 1) := by decide +kernel
set_option maxRecDepth 100000 in
theorem lb_1302 {p : Program} {l : Launch} {e : Env} {s : State} {m : MethodId} {args : Array Value} {below : List Frame} {meth : Method} {c : Code} {D : va_G} {ca : Nat → ClassId} {ad sx sy : Nat → Nat} {A : Nat → Prop} {Q : QT} {b L k : Nat} {xs : Nat → Int32} (hl0 : l.stackTraces = false) (hk : k < 600) (C0 : CX p s m args meth c cL_law 7 yL_law.cls D ca ad A) (hE : EX sx sy A s s.heap) (hr : meth.sig.returnType = some .boolean) (hno : ∀ x ∈ c.exceptionTable.toList, False) (hX : va_X b L xs s s.heap) (hbl : b < s.heap.size) (hbA : ¬ A b) (hL : L < 2147483648) : ∀ ls st M, wpl (LJ p l e s m args below meth c D ca ad A Q k) Q (b_L_law_1302 b L xs) ls st M → LJ p l e s m args below meth c D ca ad A Q k 1302 ls st M := s_aln C0 (d_L_law_1302) (hgl rfl) (s_aln C0 (d_L_law_1303) (hgl rfl) (s_il C0 (d_L_law_1304) (hgl rfl) (s_ic C0 (d_L_law_1306) (hgl rfl) (s_add C0 (d_L_law_1307) (hgl rfl) (s_scr C0 hX hbl hbA (d_L_law_1308) (hgl rfl) (s_aln C0 (d_L_law_1309) (hgl rfl) (s_il C0 (d_L_law_1310) (hgl rfl) (s_ic C0 (d_L_law_1312) (hgl rfl) (s_add C0 (d_L_law_1313) (hgl rfl) (s_scr C0 hX hbl hbA (d_L_law_1314) (hgl rfl) (s_aln C0 (d_L_law_1315) (hgl rfl) (s_il C0 (d_L_law_1316) (hgl rfl) (s_ic C0 (d_L_law_1318) (hgl rfl) (s_add C0 (d_L_law_1319) (hgl rfl) (s_scr C0 hX hbl hbA (d_L_law_1320) (hgl rfl) (s_aln C0 (d_L_law_1321) (hgl rfl) (s_callSH C0 hE (c_L_owed l hl0) wg1077 wg1075 wg1076 wg0 ⟨by decide, by decide⟩ (by decide +kernel) ⟨by decide, by decide⟩ (hfl hk rfl) (d_L_law_1322) (fun x hx => (hno x hx).elim) (hgc rfl rfl rfl) (hfl hk rfl) (s_is C0 (d_L_law_1325) (hgl rfl) (s_aln C0 (d_L_law_1327) (hgl rfl) (s_aln C0 (d_L_law_1328) (hgl rfl) (s_il C0 (d_L_law_1329) (hgl rfl) (s_ic C0 (d_L_law_1331) (hgl rfl) (s_add C0 (d_L_law_1332) (hgl rfl) (s_scr C0 hX hbl hbA (d_L_law_1333) (hgl rfl) (s_aln C0 (d_L_law_1334) (hgl rfl) (s_il C0 (d_L_law_1335) (hgl rfl) (s_ic C0 (d_L_law_1337) (hgl rfl) (s_add C0 (d_L_law_1338) (hgl rfl) (s_scr C0 hX hbl hbA (d_L_law_1339) (hgl rfl) (s_aln C0 (d_L_law_1340) (hgl rfl) (s_il C0 (d_L_law_1341) (hgl rfl) (s_ic C0 (d_L_law_1343) (hgl rfl) (s_add C0 (d_L_law_1344) (hgl rfl) (s_scr C0 hX hbl hbA (d_L_law_1345) (hgl rfl) (s_callV C0 hE (c_X11_owed l) wg1590 wg1587 wg1588 wg1589 wg12 ⟨by decide, by decide⟩ (by decide +kernel) (c0 := 11) rfl ⟨by decide, by decide⟩ (hfl hk rfl) (d_L_law_1346) (fun x hx => (hno x hx).elim) (hgc0 rfl) (hfl hk rfl) (s_is C0 (d_L_law_1349) (hgl rfl) (s_aln C0 (d_L_law_1351) (hgl rfl) (s_callV C0 hE (c_X11_thrown l) wg1344 wg1341 wg1342 wg1343 wg12 ⟨by decide, by decide⟩ (by decide +kernel) (c0 := 11) rfl ⟨by decide, by decide⟩ (hfl hk rfl) (d_L_law_1352) (fun x hx => (hno x hx).elim) (hgc0 rfl) (hfl hk rfl) (s_il C0 (d_L_law_1355) (hgl rfl) (s_ceq C0 (d_L_law_1357) (by decide) (hgl rfl) (hgl rfl) (fun _ _ _ h => h) (s_ic C0 (d_L_law_1360) (hgl rfl) (s_rz C0 hr (d_L_law_1361) (hfr hk)) (okn rfl)))))))))) (okn rfl)))))) (okn rfl)))))) (okn rfl)))))))))) (okn rfl)))))) (okn rfl)))))) (okn rfl))))
theorem d_L_law_1362 : decode cL_law 1362 = .ok (.iload 5, 2) := by decide +kernel
theorem d_L_law_1364 : decode cL_law 1364 = .ok (.ifCond .ne 15, 3) := by decide +kernel
theorem d_L_law_1367 : decode cL_law 1367 = .ok (.aload_n 3, 1) := by decide +kernel
theorem d_L_law_1368 : decode cL_law 1368 = .ok (.iconst 0, 1) := by decide +kernel
theorem d_L_law_1369 : decode cL_law 1369 = .ok (.laload, 1) := by decide +kernel
theorem d_L_law_1370 : decode cL_law 1370 = .ok (.iload 6, 2) := by decide +kernel
theorem d_L_law_1372 : decode cL_law 1372 = .ok (.i2l, 1) := by decide +kernel
theorem d_L_law_1373 : decode cL_law 1373 = .ok (.lcmp, 1) := by decide +kernel
theorem d_L_law_1374 : decode cL_law 1374 = .ok (.ifCond .eq 5, 3) := by decide +kernel
theorem d_L_law_1377 : decode cL_law 1377 = .ok (.iconst 0, 1) := by decide +kernel
theorem d_L_law_1378 : decode cL_law 1378 = .ok (.ireturn, 1) := by decide +kernel
set_option maxRecDepth 100000 in
theorem lb_1362 {p : Program} {l : Launch} {e : Env} {s : State} {m : MethodId} {args : Array Value} {below : List Frame} {meth : Method} {c : Code} {D : va_G} {ca : Nat → ClassId} {ad sx sy : Nat → Nat} {A : Nat → Prop} {Q : QT} {b L k : Nat} {xs : Nat → Int32} (hl0 : l.stackTraces = false) (hk : k < 600) (C0 : CX p s m args meth c cL_law 7 yL_law.cls D ca ad A) (hE : EX sx sy A s s.heap) (hr : meth.sig.returnType = some .boolean) (hno : ∀ x ∈ c.exceptionTable.toList, False) (hX : va_X b L xs s s.heap) (hbl : b < s.heap.size) (hbA : ¬ A b) (hL : L < 2147483648) : ∀ ls st M, wpl (LJ p l e s m args below meth c D ca ad A Q k) Q (b_L_law_1362 b L xs) ls st M → LJ p l e s m args below meth c D ca ad A Q k 1362 ls st M := s_il C0 (d_L_law_1362) (hgl rfl) (s_zne C0 (d_L_law_1364) (by decide) (hgl rfl) (hgl rfl) (fun _ _ _ h => h) (s_aln C0 (d_L_law_1367) (hgl rfl) (s_ic C0 (d_L_law_1368) (hgl rfl) (s_la C0 (d_L_law_1369) (hgl rfl) (s_il C0 (d_L_law_1370) (hgl rfl) (s_i2l C0 (d_L_law_1372) (hgl rfl) (s_lcmp C0 (d_L_law_1373) (hgl rfl) (s_zeq C0 (d_L_law_1374) (by decide) (hgl rfl) (hgl rfl) (fun _ _ _ h => h) (s_ic C0 (d_L_law_1377) (hgl rfl) (s_rz C0 hr (d_L_law_1378) (hfr hk)) (okn rfl))))))) (okn rfl))))
theorem d_L_law_1379 : decode cL_law 1379 = .ok (.goto 452, 3) := by decide +kernel
set_option maxRecDepth 100000 in
theorem lb_1379 {p : Program} {l : Launch} {e : Env} {s : State} {m : MethodId} {args : Array Value} {below : List Frame} {meth : Method} {c : Code} {D : va_G} {ca : Nat → ClassId} {ad sx sy : Nat → Nat} {A : Nat → Prop} {Q : QT} {b L k : Nat} {xs : Nat → Int32} (hl0 : l.stackTraces = false) (hk : k < 600) (C0 : CX p s m args meth c cL_law 7 yL_law.cls D ca ad A) (hE : EX sx sy A s s.heap) (hr : meth.sig.returnType = some .boolean) (hno : ∀ x ∈ c.exceptionTable.toList, False) (hX : va_X b L xs s s.heap) (hbl : b < s.heap.size) (hbA : ¬ A b) (hL : L < 2147483648) : ∀ ls st M, wpl (LJ p l e s m args below meth c D ca ad A Q k) Q (b_L_law_1379 b L xs) ls st M → LJ p l e s m args below meth c D ca ad A Q k 1379 ls st M := s_goto C0 (tgt := 1831) (d_L_law_1379) (by decide) (hgl rfl) (fun _ _ _ h => h)
theorem wg1597 : Cond.code ⟨"WeighedHallModel", "together", "(I)I"⟩ prog_13_method_66_code 6 (Option.some .int) ∈ GT := gt_mem 1717 (by decide +kernel) rfl
theorem wg1594 : Cond.methodLink "WeighedHallLaw" 164 ⟨"WeighedHallModel", "together", "(I)I"⟩ ∈ GT := gt_mem 1714 (by decide +kernel) rfl
theorem wg1595 : Cond.instanceMethod ⟨"WeighedHallModel", "together", "(I)I"⟩ ∈ GT := gt_mem 1715 (by decide +kernel) rfl
theorem wg1596 : Cond.selects "WeighedHallModel" ⟨"WeighedHallModel", "together", "(I)I"⟩ ⟨"WeighedHallModel", "together", "(I)I"⟩ ∈ GT := gt_mem 1716 (by decide +kernel) rfl
theorem wg499 : Cond.code ⟨"WeighedHall", "together", "(I)I"⟩ prog_1_method_22_code 4 (Option.some .int) ∈ GT := gt_mem 619 (by decide +kernel) rfl
theorem wg496 : Cond.methodLink "WeighedHallLaw" 161 ⟨"WeighedHall", "together", "(I)I"⟩ ∈ GT := gt_mem 616 (by decide +kernel) rfl
theorem wg497 : Cond.instanceMethod ⟨"WeighedHall", "together", "(I)I"⟩ ∈ GT := gt_mem 617 (by decide +kernel) rfl
theorem wg498 : Cond.selects "WeighedHall" ⟨"WeighedHall", "together", "(I)I"⟩ ⟨"WeighedHall", "together", "(I)I"⟩ ∈ GT := gt_mem 618 (by decide +kernel) rfl
theorem d_L_law_1382 : decode cL_law 1382 = .ok (.aload_n 1, 1) := by decide +kernel
theorem d_L_law_1383 : decode cL_law 1383 = .ok (.aload_n 0, 1) := by decide +kernel
theorem d_L_law_1384 : decode cL_law 1384 = .ok (.iload 4, 2) := by decide +kernel
theorem d_L_law_1386 : decode cL_law 1386 = .ok (.iconst 1, 1) := by decide +kernel
theorem d_L_law_1387 : decode cL_law 1387 = .ok (.iadd, 1) := by decide +kernel
theorem d_L_law_1388 : decode cL_law 1388 = .ok (.iaload, 1) := by decide +kernel
theorem d_L_law_1389 : decode cL_law 1389 = .ok (.invokevirtual 161, 3) := by decide +kernel
theorem d_L_law_1392 : decode cL_law 1392 = .ok (.aload_n 2, 1) := by decide +kernel
theorem d_L_law_1393 : decode cL_law 1393 = .ok (.aload_n 0, 1) := by decide +kernel
theorem d_L_law_1394 : decode cL_law 1394 = .ok (.iload 4, 2) := by decide +kernel
theorem d_L_law_1396 : decode cL_law 1396 = .ok (.iconst 1, 1) := by decide +kernel
theorem d_L_law_1397 : decode cL_law 1397 = .ok (.iadd, 1) := by decide +kernel
theorem d_L_law_1398 : decode cL_law 1398 = .ok (.iaload, 1) := by decide +kernel
theorem d_L_law_1399 : decode cL_law 1399 = .ok (.invokevirtual 164, 3) := by decide +kernel
theorem d_L_law_1402 : decode cL_law 1402 = .ok (.if_icmp .eq 429, 3) := by decide +kernel
theorem d_L_law_1405 : decode cL_law 1405 = .ok (.iconst 0, 1) := by decide +kernel
theorem d_L_law_1406 : decode cL_law 1406 = .ok (.ireturn, 1) := by decide +kernel
set_option maxRecDepth 100000 in
theorem lb_1382 {p : Program} {l : Launch} {e : Env} {s : State} {m : MethodId} {args : Array Value} {below : List Frame} {meth : Method} {c : Code} {D : va_G} {ca : Nat → ClassId} {ad sx sy : Nat → Nat} {A : Nat → Prop} {Q : QT} {b L k : Nat} {xs : Nat → Int32} (hl0 : l.stackTraces = false) (hk : k < 600) (C0 : CX p s m args meth c cL_law 7 yL_law.cls D ca ad A) (hE : EX sx sy A s s.heap) (hr : meth.sig.returnType = some .boolean) (hno : ∀ x ∈ c.exceptionTable.toList, False) (hX : va_X b L xs s s.heap) (hbl : b < s.heap.size) (hbA : ¬ A b) (hL : L < 2147483648) : ∀ ls st M, wpl (LJ p l e s m args below meth c D ca ad A Q k) Q (b_L_law_1382 b L xs) ls st M → LJ p l e s m args below meth c D ca ad A Q k 1382 ls st M := s_aln C0 (d_L_law_1382) (hgl rfl) (s_aln C0 (d_L_law_1383) (hgl rfl) (s_il C0 (d_L_law_1384) (hgl rfl) (s_ic C0 (d_L_law_1386) (hgl rfl) (s_add C0 (d_L_law_1387) (hgl rfl) (s_scr C0 hX hbl hbA (d_L_law_1388) (hgl rfl) (s_callV C0 hE (c_X10_together l) wg499 wg496 wg497 wg498 wg1 ⟨by decide, by decide⟩ (by decide +kernel) (c0 := 10) rfl ⟨by decide, by decide⟩ (hfl hk rfl) (d_L_law_1389) (fun x hx => (hno x hx).elim) (hgc0 rfl) (hfl hk rfl) (s_aln C0 (d_L_law_1392) (hgl rfl) (s_aln C0 (d_L_law_1393) (hgl rfl) (s_il C0 (d_L_law_1394) (hgl rfl) (s_ic C0 (d_L_law_1396) (hgl rfl) (s_add C0 (d_L_law_1397) (hgl rfl) (s_scr C0 hX hbl hbA (d_L_law_1398) (hgl rfl) (s_callV C0 hE (c_X11_together l) wg1597 wg1594 wg1595 wg1596 wg12 ⟨by decide, by decide⟩ (by decide +kernel) (c0 := 11) rfl ⟨by decide, by decide⟩ (hfl hk rfl) (d_L_law_1399) (fun x hx => (hno x hx).elim) (hgc0 rfl) (hfl hk rfl) (s_ceq C0 (d_L_law_1402) (by decide) (hgl rfl) (hgl rfl) (fun _ _ _ h => h) (s_ic C0 (d_L_law_1405) (hgl rfl) (s_rz C0 hr (d_L_law_1406) (hfr hk)) (okn rfl)))))) (okn rfl)))))))) (okn rfl))))
theorem wg1601 : Cond.code ⟨"WeighedHallModel", "bring", "(II)I"⟩ prog_13_method_67_code 10 (Option.some .int) ∈ GT := gt_mem 1721 (by decide +kernel) rfl
theorem wg1598 : Cond.methodLink "WeighedHallLaw" 167 ⟨"WeighedHallModel", "bring", "(II)I"⟩ ∈ GT := gt_mem 1718 (by decide +kernel) rfl
theorem wg1599 : Cond.instanceMethod ⟨"WeighedHallModel", "bring", "(II)I"⟩ ∈ GT := gt_mem 1719 (by decide +kernel) rfl
theorem wg1600 : Cond.selects "WeighedHallModel" ⟨"WeighedHallModel", "bring", "(II)I"⟩ ⟨"WeighedHallModel", "bring", "(II)I"⟩ ∈ GT := gt_mem 1720 (by decide +kernel) rfl
theorem wg1096 : Cond.codeWith ⟨"WeighedHallLaw", "bring", "(LWeighedHall;II[J)I"⟩ method_20_code 5 (Option.some .int) [(0, 10, 13, 25), (0, 10, 17, 13)] ∈ GT := gt_mem 1216 (by decide +kernel) rfl
theorem wg1094 : Cond.methodLink "WeighedHallLaw" 165 ⟨"WeighedHallLaw", "bring", "(LWeighedHall;II[J)I"⟩ ∈ GT := gt_mem 1214 (by decide +kernel) rfl
theorem wg1095 : Cond.static ⟨"WeighedHallLaw", "bring", "(LWeighedHall;II[J)I"⟩ ∈ GT := gt_mem 1215 (by decide +kernel) rfl
theorem d_L_law_1407 : decode cL_law 1407 = .ok (.aload_n 1, 1) := by decide +kernel
theorem d_L_law_1408 : decode cL_law 1408 = .ok (.aload_n 0, 1) := by decide +kernel
theorem d_L_law_1409 : decode cL_law 1409 = .ok (.iload 4, 2) := by decide +kernel
theorem d_L_law_1411 : decode cL_law 1411 = .ok (.iconst 1, 1) := by decide +kernel
theorem d_L_law_1412 : decode cL_law 1412 = .ok (.iadd, 1) := by decide +kernel
theorem d_L_law_1413 : decode cL_law 1413 = .ok (.iaload, 1) := by decide +kernel
theorem d_L_law_1414 : decode cL_law 1414 = .ok (.aload_n 0, 1) := by decide +kernel
theorem d_L_law_1415 : decode cL_law 1415 = .ok (.iload 4, 2) := by decide +kernel
theorem d_L_law_1417 : decode cL_law 1417 = .ok (.iconst 2, 1) := by decide +kernel
theorem d_L_law_1418 : decode cL_law 1418 = .ok (.iadd, 1) := by decide +kernel
theorem d_L_law_1419 : decode cL_law 1419 = .ok (.iaload, 1) := by decide +kernel
theorem d_L_law_1420 : decode cL_law 1420 = .ok (.aload_n 3, 1) := by decide +kernel
theorem d_L_law_1421 : decode cL_law 1421 = .ok (.invokestatic 165, 3) := by decide +kernel
theorem d_L_law_1424 : decode cL_law 1424 = .ok (.istore 5, 2) := by decide +kernel
theorem d_L_law_1426 : decode cL_law 1426 = .ok (.aload_n 2, 1) := by decide +kernel
theorem d_L_law_1427 : decode cL_law 1427 = .ok (.aload_n 0, 1) := by decide +kernel
theorem d_L_law_1428 : decode cL_law 1428 = .ok (.iload 4, 2) := by decide +kernel
theorem d_L_law_1430 : decode cL_law 1430 = .ok (.iconst 1, 1) := by decide +kernel
theorem d_L_law_1431 : decode cL_law 1431 = .ok (.iadd, 1) := by decide +kernel
theorem d_L_law_1432 : decode cL_law 1432 = .ok (.iaload, 1) := by decide +kernel
theorem d_L_law_1433 : decode cL_law 1433 = .ok (.aload_n 0, 1) := by decide +kernel
theorem d_L_law_1434 : decode cL_law 1434 = .ok (.iload 4, 2) := by decide +kernel
theorem d_L_law_1436 : decode cL_law 1436 = .ok (.iconst 2, 1) := by decide +kernel
theorem d_L_law_1437 : decode cL_law 1437 = .ok (.iadd, 1) := by decide +kernel
theorem d_L_law_1438 : decode cL_law 1438 = .ok (.iaload, 1) := by decide +kernel
theorem d_L_law_1439 : decode cL_law 1439 = .ok (.invokevirtual 167, 3) := by decide +kernel
theorem d_L_law_1442 : decode cL_law 1442 = .ok (.istore 6, 2) := by decide +kernel
theorem d_L_law_1444 : decode cL_law 1444 = .ok (.aload_n 2, 1) := by decide +kernel
theorem d_L_law_1445 : decode cL_law 1445 = .ok (.invokevirtual 99, 3) := by decide +kernel
theorem d_L_law_1448 : decode cL_law 1448 = .ok (.iload 5, 2) := by decide +kernel
theorem d_L_law_1450 : decode cL_law 1450 = .ok (.if_icmp .eq 5, 3) := by decide +kernel
theorem d_L_law_1453 : decode cL_law 1453 = .ok (.iconst 0, 1) := by decide +kernel
theorem d_L_law_1454 : decode cL_law 1454 = .ok (.ireturn, 1) := by decide +kernel
set_option maxRecDepth 100000 in
theorem lb_1407 {p : Program} {l : Launch} {e : Env} {s : State} {m : MethodId} {args : Array Value} {below : List Frame} {meth : Method} {c : Code} {D : va_G} {ca : Nat → ClassId} {ad sx sy : Nat → Nat} {A : Nat → Prop} {Q : QT} {b L k : Nat} {xs : Nat → Int32} (hl0 : l.stackTraces = false) (hk : k < 600) (C0 : CX p s m args meth c cL_law 7 yL_law.cls D ca ad A) (hE : EX sx sy A s s.heap) (hr : meth.sig.returnType = some .boolean) (hno : ∀ x ∈ c.exceptionTable.toList, False) (hX : va_X b L xs s s.heap) (hbl : b < s.heap.size) (hbA : ¬ A b) (hL : L < 2147483648) : ∀ ls st M, wpl (LJ p l e s m args below meth c D ca ad A Q k) Q (b_L_law_1407 b L xs) ls st M → LJ p l e s m args below meth c D ca ad A Q k 1407 ls st M := s_aln C0 (d_L_law_1407) (hgl rfl) (s_aln C0 (d_L_law_1408) (hgl rfl) (s_il C0 (d_L_law_1409) (hgl rfl) (s_ic C0 (d_L_law_1411) (hgl rfl) (s_add C0 (d_L_law_1412) (hgl rfl) (s_scr C0 hX hbl hbA (d_L_law_1413) (hgl rfl) (s_aln C0 (d_L_law_1414) (hgl rfl) (s_il C0 (d_L_law_1415) (hgl rfl) (s_ic C0 (d_L_law_1417) (hgl rfl) (s_add C0 (d_L_law_1418) (hgl rfl) (s_scr C0 hX hbl hbA (d_L_law_1419) (hgl rfl) (s_aln C0 (d_L_law_1420) (hgl rfl) (s_callSH C0 hE (c_L_bring l hl0) wg1096 wg1094 wg1095 wg0 ⟨by decide, by decide⟩ (by decide +kernel) ⟨by decide, by decide⟩ (hfl hk rfl) (d_L_law_1421) (fun x hx => (hno x hx).elim) (hgc rfl rfl rfl) (hfl hk rfl) (s_is C0 (d_L_law_1424) (hgl rfl) (s_aln C0 (d_L_law_1426) (hgl rfl) (s_aln C0 (d_L_law_1427) (hgl rfl) (s_il C0 (d_L_law_1428) (hgl rfl) (s_ic C0 (d_L_law_1430) (hgl rfl) (s_add C0 (d_L_law_1431) (hgl rfl) (s_scr C0 hX hbl hbA (d_L_law_1432) (hgl rfl) (s_aln C0 (d_L_law_1433) (hgl rfl) (s_il C0 (d_L_law_1434) (hgl rfl) (s_ic C0 (d_L_law_1436) (hgl rfl) (s_add C0 (d_L_law_1437) (hgl rfl) (s_scr C0 hX hbl hbA (d_L_law_1438) (hgl rfl) (s_callV C0 hE (c_X11_bring l) wg1601 wg1598 wg1599 wg1600 wg12 ⟨by decide, by decide⟩ (by decide +kernel) (c0 := 11) rfl ⟨by decide, by decide⟩ (hfl hk rfl) (d_L_law_1439) (fun x hx => (hno x hx).elim) (hgc0 rfl) (hfl hk rfl) (s_is C0 (d_L_law_1442) (hgl rfl) (s_aln C0 (d_L_law_1444) (hgl rfl) (s_callV C0 hE (c_X11_thrown l) wg1344 wg1341 wg1342 wg1343 wg12 ⟨by decide, by decide⟩ (by decide +kernel) (c0 := 11) rfl ⟨by decide, by decide⟩ (hfl hk rfl) (d_L_law_1445) (fun x hx => (hno x hx).elim) (hgc0 rfl) (hfl hk rfl) (s_il C0 (d_L_law_1448) (hgl rfl) (s_ceq C0 (d_L_law_1450) (by decide) (hgl rfl) (hgl rfl) (fun _ _ _ h => h) (s_ic C0 (d_L_law_1453) (hgl rfl) (s_rz C0 hr (d_L_law_1454) (hfr hk)) (okn rfl)))))))))) (okn rfl)))))) (okn rfl)))))))))) (okn rfl)))))) (okn rfl))))
theorem d_L_law_1455 : decode cL_law 1455 = .ok (.iload 5, 2) := by decide +kernel
theorem d_L_law_1457 : decode cL_law 1457 = .ok (.ifCond .ne 15, 3) := by decide +kernel
theorem d_L_law_1460 : decode cL_law 1460 = .ok (.aload_n 3, 1) := by decide +kernel
theorem d_L_law_1461 : decode cL_law 1461 = .ok (.iconst 0, 1) := by decide +kernel
theorem d_L_law_1462 : decode cL_law 1462 = .ok (.laload, 1) := by decide +kernel
theorem d_L_law_1463 : decode cL_law 1463 = .ok (.iload 6, 2) := by decide +kernel
theorem d_L_law_1465 : decode cL_law 1465 = .ok (.i2l, 1) := by decide +kernel
theorem d_L_law_1466 : decode cL_law 1466 = .ok (.lcmp, 1) := by decide +kernel
theorem d_L_law_1467 : decode cL_law 1467 = .ok (.ifCond .eq 5, 3) := by decide +kernel
theorem d_L_law_1470 : decode cL_law 1470 = .ok (.iconst 0, 1) := by decide +kernel
theorem d_L_law_1471 : decode cL_law 1471 = .ok (.ireturn, 1) := by decide +kernel
set_option maxRecDepth 100000 in
theorem lb_1455 {p : Program} {l : Launch} {e : Env} {s : State} {m : MethodId} {args : Array Value} {below : List Frame} {meth : Method} {c : Code} {D : va_G} {ca : Nat → ClassId} {ad sx sy : Nat → Nat} {A : Nat → Prop} {Q : QT} {b L k : Nat} {xs : Nat → Int32} (hl0 : l.stackTraces = false) (hk : k < 600) (C0 : CX p s m args meth c cL_law 7 yL_law.cls D ca ad A) (hE : EX sx sy A s s.heap) (hr : meth.sig.returnType = some .boolean) (hno : ∀ x ∈ c.exceptionTable.toList, False) (hX : va_X b L xs s s.heap) (hbl : b < s.heap.size) (hbA : ¬ A b) (hL : L < 2147483648) : ∀ ls st M, wpl (LJ p l e s m args below meth c D ca ad A Q k) Q (b_L_law_1455 b L xs) ls st M → LJ p l e s m args below meth c D ca ad A Q k 1455 ls st M := s_il C0 (d_L_law_1455) (hgl rfl) (s_zne C0 (d_L_law_1457) (by decide) (hgl rfl) (hgl rfl) (fun _ _ _ h => h) (s_aln C0 (d_L_law_1460) (hgl rfl) (s_ic C0 (d_L_law_1461) (hgl rfl) (s_la C0 (d_L_law_1462) (hgl rfl) (s_il C0 (d_L_law_1463) (hgl rfl) (s_i2l C0 (d_L_law_1465) (hgl rfl) (s_lcmp C0 (d_L_law_1466) (hgl rfl) (s_zeq C0 (d_L_law_1467) (by decide) (hgl rfl) (hgl rfl) (fun _ _ _ h => h) (s_ic C0 (d_L_law_1470) (hgl rfl) (s_rz C0 hr (d_L_law_1471) (hfr hk)) (okn rfl))))))) (okn rfl))))
theorem d_L_law_1472 : decode cL_law 1472 = .ok (.goto 359, 3) := by decide +kernel
set_option maxRecDepth 100000 in
theorem lb_1472 {p : Program} {l : Launch} {e : Env} {s : State} {m : MethodId} {args : Array Value} {below : List Frame} {meth : Method} {c : Code} {D : va_G} {ca : Nat → ClassId} {ad sx sy : Nat → Nat} {A : Nat → Prop} {Q : QT} {b L k : Nat} {xs : Nat → Int32} (hl0 : l.stackTraces = false) (hk : k < 600) (C0 : CX p s m args meth c cL_law 7 yL_law.cls D ca ad A) (hE : EX sx sy A s s.heap) (hr : meth.sig.returnType = some .boolean) (hno : ∀ x ∈ c.exceptionTable.toList, False) (hX : va_X b L xs s s.heap) (hbl : b < s.heap.size) (hbA : ¬ A b) (hL : L < 2147483648) : ∀ ls st M, wpl (LJ p l e s m args below meth c D ca ad A Q k) Q (b_L_law_1472 b L xs) ls st M → LJ p l e s m args below meth c D ca ad A Q k 1472 ls st M := s_goto C0 (tgt := 1831) (d_L_law_1472) (by decide) (hgl rfl) (fun _ _ _ h => h)
theorem wg1605 : Cond.code ⟨"WeighedHallModel", "vote", "(III)I"⟩ prog_13_method_68_code 5 (Option.some .int) ∈ GT := gt_mem 1725 (by decide +kernel) rfl
theorem wg1602 : Cond.methodLink "WeighedHallLaw" 170 ⟨"WeighedHallModel", "vote", "(III)I"⟩ ∈ GT := gt_mem 1722 (by decide +kernel) rfl
theorem wg1603 : Cond.instanceMethod ⟨"WeighedHallModel", "vote", "(III)I"⟩ ∈ GT := gt_mem 1723 (by decide +kernel) rfl
theorem wg1604 : Cond.selects "WeighedHallModel" ⟨"WeighedHallModel", "vote", "(III)I"⟩ ⟨"WeighedHallModel", "vote", "(III)I"⟩ ∈ GT := gt_mem 1724 (by decide +kernel) rfl
theorem wg1119 : Cond.codeWith ⟨"WeighedHallLaw", "vote", "(LWeighedHall;III[J)I"⟩ method_21_code 6 (Option.some .int) [(0, 12, 15, 13)] ∈ GT := gt_mem 1239 (by decide +kernel) rfl
theorem wg1117 : Cond.methodLink "WeighedHallLaw" 168 ⟨"WeighedHallLaw", "vote", "(LWeighedHall;III[J)I"⟩ ∈ GT := gt_mem 1237 (by decide +kernel) rfl
theorem wg1118 : Cond.static ⟨"WeighedHallLaw", "vote", "(LWeighedHall;III[J)I"⟩ ∈ GT := gt_mem 1238 (by decide +kernel) rfl
theorem d_L_law_1475 : decode cL_law 1475 = .ok (.aload_n 1, 1) := by decide +kernel
theorem d_L_law_1476 : decode cL_law 1476 = .ok (.aload_n 0, 1) := by decide +kernel
theorem d_L_law_1477 : decode cL_law 1477 = .ok (.iload 4, 2) := by decide +kernel
theorem d_L_law_1479 : decode cL_law 1479 = .ok (.iconst 1, 1) := by decide +kernel
theorem d_L_law_1480 : decode cL_law 1480 = .ok (.iadd, 1) := by decide +kernel
theorem d_L_law_1481 : decode cL_law 1481 = .ok (.iaload, 1) := by decide +kernel
theorem d_L_law_1482 : decode cL_law 1482 = .ok (.aload_n 0, 1) := by decide +kernel
theorem d_L_law_1483 : decode cL_law 1483 = .ok (.iload 4, 2) := by decide +kernel
theorem d_L_law_1485 : decode cL_law 1485 = .ok (.iconst 2, 1) := by decide +kernel
theorem d_L_law_1486 : decode cL_law 1486 = .ok (.iadd, 1) := by decide +kernel
theorem d_L_law_1487 : decode cL_law 1487 = .ok (.iaload, 1) := by decide +kernel
theorem d_L_law_1488 : decode cL_law 1488 = .ok (.aload_n 0, 1) := by decide +kernel
theorem d_L_law_1489 : decode cL_law 1489 = .ok (.iload 4, 2) := by decide +kernel
theorem d_L_law_1491 : decode cL_law 1491 = .ok (.iconst 3, 1) := by decide +kernel
theorem d_L_law_1492 : decode cL_law 1492 = .ok (.iadd, 1) := by decide +kernel
theorem d_L_law_1493 : decode cL_law 1493 = .ok (.iaload, 1) := by decide +kernel
theorem d_L_law_1494 : decode cL_law 1494 = .ok (.aload_n 3, 1) := by decide +kernel
theorem d_L_law_1495 : decode cL_law 1495 = .ok (.invokestatic 168, 3) := by decide +kernel
theorem d_L_law_1498 : decode cL_law 1498 = .ok (.istore 5, 2) := by decide +kernel
theorem d_L_law_1500 : decode cL_law 1500 = .ok (.aload_n 2, 1) := by decide +kernel
theorem d_L_law_1501 : decode cL_law 1501 = .ok (.aload_n 0, 1) := by decide +kernel
theorem d_L_law_1502 : decode cL_law 1502 = .ok (.iload 4, 2) := by decide +kernel
theorem d_L_law_1504 : decode cL_law 1504 = .ok (.iconst 1, 1) := by decide +kernel
theorem d_L_law_1505 : decode cL_law 1505 = .ok (.iadd, 1) := by decide +kernel
theorem d_L_law_1506 : decode cL_law 1506 = .ok (.iaload, 1) := by decide +kernel
theorem d_L_law_1507 : decode cL_law 1507 = .ok (.aload_n 0, 1) := by decide +kernel
theorem d_L_law_1508 : decode cL_law 1508 = .ok (.iload 4, 2) := by decide +kernel
theorem d_L_law_1510 : decode cL_law 1510 = .ok (.iconst 2, 1) := by decide +kernel
theorem d_L_law_1511 : decode cL_law 1511 = .ok (.iadd, 1) := by decide +kernel
theorem d_L_law_1512 : decode cL_law 1512 = .ok (.iaload, 1) := by decide +kernel
theorem d_L_law_1513 : decode cL_law 1513 = .ok (.aload_n 0, 1) := by decide +kernel
theorem d_L_law_1514 : decode cL_law 1514 = .ok (.iload 4, 2) := by decide +kernel
theorem d_L_law_1516 : decode cL_law 1516 = .ok (.iconst 3, 1) := by decide +kernel
theorem d_L_law_1517 : decode cL_law 1517 = .ok (.iadd, 1) := by decide +kernel
theorem d_L_law_1518 : decode cL_law 1518 = .ok (.iaload, 1) := by decide +kernel
theorem d_L_law_1519 : decode cL_law 1519 = .ok (.invokevirtual 170, 3) := by decide +kernel
theorem d_L_law_1522 : decode cL_law 1522 = .ok (.istore 6, 2) := by decide +kernel
theorem d_L_law_1524 : decode cL_law 1524 = .ok (.aload_n 2, 1) := by decide +kernel
theorem d_L_law_1525 : decode cL_law 1525 = .ok (.invokevirtual 99, 3) := by decide +kernel
theorem d_L_law_1528 : decode cL_law 1528 = .ok (.iload 5, 2) := by decide +kernel
theorem d_L_law_1530 : decode cL_law 1530 = .ok (.if_icmp .eq 5, 3) := by decide +kernel
theorem d_L_law_1533 : decode cL_law 1533 = .ok (.iconst 0, 1) := by decide +kernel
theorem d_L_law_1534 : decode cL_law 1534 = .ok (.ireturn, 1) := by decide +kernel
set_option maxRecDepth 100000 in
theorem lb_1475 {p : Program} {l : Launch} {e : Env} {s : State} {m : MethodId} {args : Array Value} {below : List Frame} {meth : Method} {c : Code} {D : va_G} {ca : Nat → ClassId} {ad sx sy : Nat → Nat} {A : Nat → Prop} {Q : QT} {b L k : Nat} {xs : Nat → Int32} (hl0 : l.stackTraces = false) (hk : k < 600) (C0 : CX p s m args meth c cL_law 7 yL_law.cls D ca ad A) (hE : EX sx sy A s s.heap) (hr : meth.sig.returnType = some .boolean) (hno : ∀ x ∈ c.exceptionTable.toList, False) (hX : va_X b L xs s s.heap) (hbl : b < s.heap.size) (hbA : ¬ A b) (hL : L < 2147483648) : ∀ ls st M, wpl (LJ p l e s m args below meth c D ca ad A Q k) Q (b_L_law_1475 b L xs) ls st M → LJ p l e s m args below meth c D ca ad A Q k 1475 ls st M := s_aln C0 (d_L_law_1475) (hgl rfl) (s_aln C0 (d_L_law_1476) (hgl rfl) (s_il C0 (d_L_law_1477) (hgl rfl) (s_ic C0 (d_L_law_1479) (hgl rfl) (s_add C0 (d_L_law_1480) (hgl rfl) (s_scr C0 hX hbl hbA (d_L_law_1481) (hgl rfl) (s_aln C0 (d_L_law_1482) (hgl rfl) (s_il C0 (d_L_law_1483) (hgl rfl) (s_ic C0 (d_L_law_1485) (hgl rfl) (s_add C0 (d_L_law_1486) (hgl rfl) (s_scr C0 hX hbl hbA (d_L_law_1487) (hgl rfl) (s_aln C0 (d_L_law_1488) (hgl rfl) (s_il C0 (d_L_law_1489) (hgl rfl) (s_ic C0 (d_L_law_1491) (hgl rfl) (s_add C0 (d_L_law_1492) (hgl rfl) (s_scr C0 hX hbl hbA (d_L_law_1493) (hgl rfl) (s_aln C0 (d_L_law_1494) (hgl rfl) (s_callSH C0 hE (c_L_vote l hl0) wg1119 wg1117 wg1118 wg0 ⟨by decide, by decide⟩ (by decide +kernel) ⟨by decide, by decide⟩ (hfl hk rfl) (d_L_law_1495) (fun x hx => (hno x hx).elim) (hgc rfl rfl rfl) (hfl hk rfl) (s_is C0 (d_L_law_1498) (hgl rfl) (s_aln C0 (d_L_law_1500) (hgl rfl) (s_aln C0 (d_L_law_1501) (hgl rfl) (s_il C0 (d_L_law_1502) (hgl rfl) (s_ic C0 (d_L_law_1504) (hgl rfl) (s_add C0 (d_L_law_1505) (hgl rfl) (s_scr C0 hX hbl hbA (d_L_law_1506) (hgl rfl) (s_aln C0 (d_L_law_1507) (hgl rfl) (s_il C0 (d_L_law_1508) (hgl rfl) (s_ic C0 (d_L_law_1510) (hgl rfl) (s_add C0 (d_L_law_1511) (hgl rfl) (s_scr C0 hX hbl hbA (d_L_law_1512) (hgl rfl) (s_aln C0 (d_L_law_1513) (hgl rfl) (s_il C0 (d_L_law_1514) (hgl rfl) (s_ic C0 (d_L_law_1516) (hgl rfl) (s_add C0 (d_L_law_1517) (hgl rfl) (s_scr C0 hX hbl hbA (d_L_law_1518) (hgl rfl) (s_callV C0 hE (c_X11_vote l) wg1605 wg1602 wg1603 wg1604 wg12 ⟨by decide, by decide⟩ (by decide +kernel) (c0 := 11) rfl ⟨by decide, by decide⟩ (hfl hk rfl) (d_L_law_1519) (fun x hx => (hno x hx).elim) (hgc0 rfl) (hfl hk rfl) (s_is C0 (d_L_law_1522) (hgl rfl) (s_aln C0 (d_L_law_1524) (hgl rfl) (s_callV C0 hE (c_X11_thrown l) wg1344 wg1341 wg1342 wg1343 wg12 ⟨by decide, by decide⟩ (by decide +kernel) (c0 := 11) rfl ⟨by decide, by decide⟩ (hfl hk rfl) (d_L_law_1525) (fun x hx => (hno x hx).elim) (hgc0 rfl) (hfl hk rfl) (s_il C0 (d_L_law_1528) (hgl rfl) (s_ceq C0 (d_L_law_1530) (by decide) (hgl rfl) (hgl rfl) (fun _ _ _ h => h) (s_ic C0 (d_L_law_1533) (hgl rfl) (s_rz C0 hr (d_L_law_1534) (hfr hk)) (okn rfl)))))))))) (okn rfl)))))) (okn rfl)))))) (okn rfl)))))))))) (okn rfl)))))) (okn rfl)))))) (okn rfl))))
