theorem d_L_law_1535 : decode cL_law 1535 = .ok (.iload 5, 2) := by decide +kernel
theorem d_L_law_1537 : decode cL_law 1537 = .ok (.ifCond .ne 15, 3) := by decide +kernel
theorem d_L_law_1540 : decode cL_law 1540 = .ok (.aload_n 3, 1) := by decide +kernel
theorem d_L_law_1541 : decode cL_law 1541 = .ok (.iconst 0, 1) := by decide +kernel
theorem d_L_law_1542 : decode cL_law 1542 = .ok (.laload, 1) := by decide +kernel
theorem d_L_law_1543 : decode cL_law 1543 = .ok (.iload 6, 2) := by decide +kernel
theorem d_L_law_1545 : decode cL_law 1545 = .ok (.i2l, 1) := by decide +kernel
theorem d_L_law_1546 : decode cL_law 1546 = .ok (.lcmp, 1) := by decide +kernel
theorem d_L_law_1547 : decode cL_law 1547 = .ok (.ifCond .eq 5, 3) := by decide +kernel
theorem d_L_law_1550 : decode cL_law 1550 = .ok (.iconst 0, 1) := by decide +kernel
theorem d_L_law_1551 : decode cL_law 1551 = .ok (.ireturn, 1) := by decide +kernel
set_option maxRecDepth 100000 in
theorem lb_1535 {p : Program} {l : Launch} {e : Env} {s : State} {m : MethodId} {args : Array Value} {below : List Frame} {meth : Method} {c : Code} {D : va_G} {ca : Nat → ClassId} {ad sx sy : Nat → Nat} {A : Nat → Prop} {Q : QT} {b L k : Nat} {xs : Nat → Int32} (hl0 : l.stackTraces = false) (hk : k < 600) (C0 : CX p s m args meth c cL_law 7 yL_law.cls D ca ad A) (hE : EX sx sy A s s.heap) (hr : meth.sig.returnType = some .boolean) (hno : ∀ x ∈ c.exceptionTable.toList, False) (hX : va_X b L xs s s.heap) (hbl : b < s.heap.size) (hbA : ¬ A b) (hL : L < 2147483648) : ∀ ls st M, wpl (LJ p l e s m args below meth c D ca ad A Q k) Q (b_L_law_1535 b L xs) ls st M → LJ p l e s m args below meth c D ca ad A Q k 1535 ls st M := s_il C0 (d_L_law_1535) (hgl rfl) (s_zne C0 (d_L_law_1537) (by decide) (hgl rfl) (hgl rfl) (fun _ _ _ h => h) (s_aln C0 (d_L_law_1540) (hgl rfl) (s_ic C0 (d_L_law_1541) (hgl rfl) (s_la C0 (d_L_law_1542) (hgl rfl) (s_il C0 (d_L_law_1543) (hgl rfl) (s_i2l C0 (d_L_law_1545) (hgl rfl) (s_lcmp C0 (d_L_law_1546) (hgl rfl) (s_zeq C0 (d_L_law_1547) (by decide) (hgl rfl) (hgl rfl) (fun _ _ _ h => h) (s_ic C0 (d_L_law_1550) (hgl rfl) (s_rz C0 hr (d_L_law_1551) (hfr hk)) (okn rfl))))))) (okn rfl))))
theorem d_L_law_1552 : decode cL_law 1552 = .ok (.goto 279, 3) := by decide +kernel
set_option maxRecDepth 100000 in
theorem lb_1552 {p : Program} {l : Launch} {e : Env} {s : State} {m : MethodId} {args : Array Value} {below : List Frame} {meth : Method} {c : Code} {D : va_G} {ca : Nat → ClassId} {ad sx sy : Nat → Nat} {A : Nat → Prop} {Q : QT} {b L k : Nat} {xs : Nat → Int32} (hl0 : l.stackTraces = false) (hk : k < 600) (C0 : CX p s m args meth c cL_law 7 yL_law.cls D ca ad A) (hE : EX sx sy A s s.heap) (hr : meth.sig.returnType = some .boolean) (hno : ∀ x ∈ c.exceptionTable.toList, False) (hX : va_X b L xs s s.heap) (hbl : b < s.heap.size) (hbA : ¬ A b) (hL : L < 2147483648) : ∀ ls st M, wpl (LJ p l e s m args below meth c D ca ad A Q k) Q (b_L_law_1552 b L xs) ls st M → LJ p l e s m args below meth c D ca ad A Q k 1552 ls st M := s_goto C0 (tgt := 1831) (d_L_law_1552) (by decide) (hgl rfl) (fun _ _ _ h => h)
theorem wg1609 : Cond.code ⟨"WeighedHallModel", "forget", "()I"⟩ prog_13_method_69_code 2 (Option.some .int) ∈ GT := gt_mem 1729 (by decide +kernel) rfl
theorem wg1606 : Cond.methodLink "WeighedHallLaw" 174 ⟨"WeighedHallModel", "forget", "()I"⟩ ∈ GT := gt_mem 1726 (by decide +kernel) rfl
theorem wg1607 : Cond.instanceMethod ⟨"WeighedHallModel", "forget", "()I"⟩ ∈ GT := gt_mem 1727 (by decide +kernel) rfl
theorem wg1608 : Cond.selects "WeighedHallModel" ⟨"WeighedHallModel", "forget", "()I"⟩ ⟨"WeighedHallModel", "forget", "()I"⟩ ∈ GT := gt_mem 1728 (by decide +kernel) rfl
theorem wg515 : Cond.code ⟨"WeighedHall", "forget", "()I"⟩ prog_1_method_25_code 2 (Option.some .int) ∈ GT := gt_mem 635 (by decide +kernel) rfl
theorem wg512 : Cond.methodLink "WeighedHallLaw" 171 ⟨"WeighedHall", "forget", "()I"⟩ ∈ GT := gt_mem 632 (by decide +kernel) rfl
theorem wg513 : Cond.instanceMethod ⟨"WeighedHall", "forget", "()I"⟩ ∈ GT := gt_mem 633 (by decide +kernel) rfl
theorem wg514 : Cond.selects "WeighedHall" ⟨"WeighedHall", "forget", "()I"⟩ ⟨"WeighedHall", "forget", "()I"⟩ ∈ GT := gt_mem 634 (by decide +kernel) rfl
theorem d_L_law_1555 : decode cL_law 1555 = .ok (.aload_n 1, 1) := by decide +kernel
theorem d_L_law_1556 : decode cL_law 1556 = .ok (.invokevirtual 171, 3) := by decide +kernel
theorem d_L_law_1559 : decode cL_law 1559 = .ok (.aload_n 2, 1) := by decide +kernel
theorem d_L_law_1560 : decode cL_law 1560 = .ok (.invokevirtual 174, 3) := by decide +kernel
theorem d_L_law_1563 : decode cL_law 1563 = .ok (.if_icmp .eq 268, 3) := by decide +kernel
theorem d_L_law_1566 : decode cL_law 1566 = .ok (.iconst 0, 1) := by decide +kernel
theorem d_L_law_1567 : decode cL_law 1567 = .ok (.ireturn, 1) := by decide +kernel
set_option maxRecDepth 100000 in
theorem lb_1555 {p : Program} {l : Launch} {e : Env} {s : State} {m : MethodId} {args : Array Value} {below : List Frame} {meth : Method} {c : Code} {D : va_G} {ca : Nat → ClassId} {ad sx sy : Nat → Nat} {A : Nat → Prop} {Q : QT} {b L k : Nat} {xs : Nat → Int32} (hl0 : l.stackTraces = false) (hk : k < 600) (C0 : CX p s m args meth c cL_law 7 yL_law.cls D ca ad A) (hE : EX sx sy A s s.heap) (hr : meth.sig.returnType = some .boolean) (hno : ∀ x ∈ c.exceptionTable.toList, False) (hX : va_X b L xs s s.heap) (hbl : b < s.heap.size) (hbA : ¬ A b) (hL : L < 2147483648) : ∀ ls st M, wpl (LJ p l e s m args below meth c D ca ad A Q k) Q (b_L_law_1555 b L xs) ls st M → LJ p l e s m args below meth c D ca ad A Q k 1555 ls st M := s_aln C0 (d_L_law_1555) (hgl rfl) (s_callV C0 hE (c_X10_forget l) wg515 wg512 wg513 wg514 wg1 ⟨by decide, by decide⟩ (by decide +kernel) (c0 := 10) rfl ⟨by decide, by decide⟩ (hfl hk rfl) (d_L_law_1556) (fun x hx => (hno x hx).elim) (hgc0 rfl) (hfl hk rfl) (s_aln C0 (d_L_law_1559) (hgl rfl) (s_callV C0 hE (c_X11_forget l) wg1609 wg1606 wg1607 wg1608 wg12 ⟨by decide, by decide⟩ (by decide +kernel) (c0 := 11) rfl ⟨by decide, by decide⟩ (hfl hk rfl) (d_L_law_1560) (fun x hx => (hno x hx).elim) (hgc0 rfl) (hfl hk rfl) (s_ceq C0 (d_L_law_1563) (by decide) (hgl rfl) (hgl rfl) (fun _ _ _ h => h) (s_ic C0 (d_L_law_1566) (hgl rfl) (s_rz C0 hr (d_L_law_1567) (hfr hk)) (okn rfl))))))
theorem wg1613 : Cond.code ⟨"WeighedHallModel", "hollow", "(I)I"⟩ prog_13_method_71_code 7 (Option.some .int) ∈ GT := gt_mem 1733 (by decide +kernel) rfl
theorem wg1610 : Cond.methodLink "WeighedHallLaw" 177 ⟨"WeighedHallModel", "hollow", "(I)I"⟩ ∈ GT := gt_mem 1730 (by decide +kernel) rfl
theorem wg1611 : Cond.instanceMethod ⟨"WeighedHallModel", "hollow", "(I)I"⟩ ∈ GT := gt_mem 1731 (by decide +kernel) rfl
theorem wg1612 : Cond.selects "WeighedHallModel" ⟨"WeighedHallModel", "hollow", "(I)I"⟩ ⟨"WeighedHallModel", "hollow", "(I)I"⟩ ∈ GT := gt_mem 1732 (by decide +kernel) rfl
theorem wg1134 : Cond.codeWith ⟨"WeighedHallLaw", "hollow", "(LWeighedHall;I[J)I"⟩ method_22_code 4 (Option.some .int) [(0, 9, 12, 13)] ∈ GT := gt_mem 1254 (by decide +kernel) rfl
theorem wg1132 : Cond.methodLink "WeighedHallLaw" 175 ⟨"WeighedHallLaw", "hollow", "(LWeighedHall;I[J)I"⟩ ∈ GT := gt_mem 1252 (by decide +kernel) rfl
theorem wg1133 : Cond.static ⟨"WeighedHallLaw", "hollow", "(LWeighedHall;I[J)I"⟩ ∈ GT := gt_mem 1253 (by decide +kernel) rfl
theorem d_L_law_1568 : decode cL_law 1568 = .ok (.aload_n 1, 1) := by decide +kernel
theorem d_L_law_1569 : decode cL_law 1569 = .ok (.aload_n 0, 1) := by decide +kernel
theorem d_L_law_1570 : decode cL_law 1570 = .ok (.iload 4, 2) := by decide +kernel
theorem d_L_law_1572 : decode cL_law 1572 = .ok (.iconst 1, 1) := by decide +kernel
theorem d_L_law_1573 : decode cL_law 1573 = .ok (.iadd, 1) := by decide +kernel
theorem d_L_law_1574 : decode cL_law 1574 = .ok (.iaload, 1) := by decide +kernel
theorem d_L_law_1575 : decode cL_law 1575 = .ok (.aload_n 3, 1) := by decide +kernel
theorem d_L_law_1576 : decode cL_law 1576 = .ok (.invokestatic 175, 3) := by decide +kernel
theorem d_L_law_1579 : decode cL_law 1579 = .ok (.istore 5, 2) := by decide +kernel
theorem d_L_law_1581 : decode cL_law 1581 = .ok (.aload_n 2, 1) := by decide +kernel
theorem d_L_law_1582 : decode cL_law 1582 = .ok (.aload_n 0, 1) := by decide +kernel
theorem d_L_law_1583 : decode cL_law 1583 = .ok (.iload 4, 2) := by decide +kernel
theorem d_L_law_1585 : decode cL_law 1585 = .ok (.iconst 1, 1) := by decide +kernel
theorem d_L_law_1586 : decode cL_law 1586 = .ok (.iadd, 1) := by decide +kernel
theorem d_L_law_1587 : decode cL_law 1587 = .ok (.iaload, 1) := by decide +kernel
theorem d_L_law_1588 : decode cL_law 1588 = .ok (.invokevirtual 177, 3) := by decide +kernel
theorem d_L_law_1591 : decode cL_law 1591 = .ok (.istore 6, 2) := by decide +kernel
theorem d_L_law_1593 : decode cL_law 1593 = .ok (.aload_n 2, 1) := by decide +kernel
theorem d_L_law_1594 : decode cL_law 1594 = .ok (.invokevirtual 99, 3) := by decide +kernel
theorem d_L_law_1597 : decode cL_law 1597 = .ok (.iload 5, 2) := by decide +kernel
theorem d_L_law_1599 : decode cL_law 1599 = .ok (.if_icmp .eq 5, 3) := by decide +kernel
theorem d_L_law_1602 : decode cL_law 1602 = .ok (.iconst 0, 1) := by decide +kernel
theorem d_L_law_1603 : decode cL_law 1603 = .ok (.ireturn, 1) := by decide +kernel
set_option maxRecDepth 100000 in
theorem lb_1568 {p : Program} {l : Launch} {e : Env} {s : State} {m : MethodId} {args : Array Value} {below : List Frame} {meth : Method} {c : Code} {D : va_G} {ca : Nat → ClassId} {ad sx sy : Nat → Nat} {A : Nat → Prop} {Q : QT} {b L k : Nat} {xs : Nat → Int32} (hl0 : l.stackTraces = false) (hk : k < 600) (C0 : CX p s m args meth c cL_law 7 yL_law.cls D ca ad A) (hE : EX sx sy A s s.heap) (hr : meth.sig.returnType = some .boolean) (hno : ∀ x ∈ c.exceptionTable.toList, False) (hX : va_X b L xs s s.heap) (hbl : b < s.heap.size) (hbA : ¬ A b) (hL : L < 2147483648) : ∀ ls st M, wpl (LJ p l e s m args below meth c D ca ad A Q k) Q (b_L_law_1568 b L xs) ls st M → LJ p l e s m args below meth c D ca ad A Q k 1568 ls st M := s_aln C0 (d_L_law_1568) (hgl rfl) (s_aln C0 (d_L_law_1569) (hgl rfl) (s_il C0 (d_L_law_1570) (hgl rfl) (s_ic C0 (d_L_law_1572) (hgl rfl) (s_add C0 (d_L_law_1573) (hgl rfl) (s_scr C0 hX hbl hbA (d_L_law_1574) (hgl rfl) (s_aln C0 (d_L_law_1575) (hgl rfl) (s_callSH C0 hE (c_L_hollow l hl0) wg1134 wg1132 wg1133 wg0 ⟨by decide, by decide⟩ (by decide +kernel) ⟨by decide, by decide⟩ (hfl hk rfl) (d_L_law_1576) (fun x hx => (hno x hx).elim) (hgc rfl rfl rfl) (hfl hk rfl) (s_is C0 (d_L_law_1579) (hgl rfl) (s_aln C0 (d_L_law_1581) (hgl rfl) (s_aln C0 (d_L_law_1582) (hgl rfl) (s_il C0 (d_L_law_1583) (hgl rfl) (s_ic C0 (d_L_law_1585) (hgl rfl) (s_add C0 (d_L_law_1586) (hgl rfl) (s_scr C0 hX hbl hbA (d_L_law_1587) (hgl rfl) (s_callV C0 hE (c_X11_hollow l) wg1613 wg1610 wg1611 wg1612 wg12 ⟨by decide, by decide⟩ (by decide +kernel) (c0 := 11) rfl ⟨by decide, by decide⟩ (hfl hk rfl) (d_L_law_1588) (fun x hx => (hno x hx).elim) (hgc0 rfl) (hfl hk rfl) (s_is C0 (d_L_law_1591) (hgl rfl) (s_aln C0 (d_L_law_1593) (hgl rfl) (s_callV C0 hE (c_X11_thrown l) wg1344 wg1341 wg1342 wg1343 wg12 ⟨by decide, by decide⟩ (by decide +kernel) (c0 := 11) rfl ⟨by decide, by decide⟩ (hfl hk rfl) (d_L_law_1594) (fun x hx => (hno x hx).elim) (hgc0 rfl) (hfl hk rfl) (s_il C0 (d_L_law_1597) (hgl rfl) (s_ceq C0 (d_L_law_1599) (by decide) (hgl rfl) (hgl rfl) (fun _ _ _ h => h) (s_ic C0 (d_L_law_1602) (hgl rfl) (s_rz C0 hr (d_L_law_1603) (hfr hk)) (okn rfl)))))))))) (okn rfl)))))))))) (okn rfl))))
theorem d_L_law_1604 : decode cL_law 1604 = .ok (.iload 5, 2) := by decide +kernel
theorem d_L_law_1606 : decode cL_law 1606 = .ok (.ifCond .ne 15, 3) := by decide +kernel
theorem d_L_law_1609 : decode cL_law 1609 = .ok (.aload_n 3, 1) := by decide +kernel
theorem d_L_law_1610 : decode cL_law 1610 = .ok (.iconst 0, 1) := by decide +kernel
theorem d_L_law_1611 : decode cL_law 1611 = .ok (.laload, 1) := by decide +kernel
theorem d_L_law_1612 : decode cL_law 1612 = .ok (.iload 6, 2) := by decide +kernel
theorem d_L_law_1614 : decode cL_law 1614 = .ok (.i2l, 1) := by decide +kernel
theorem d_L_law_1615 : decode cL_law 1615 = .ok (.lcmp, 1) := by decide +kernel
theorem d_L_law_1616 : decode cL_law 1616 = .ok (.ifCond .eq 5, 3) := by decide +kernel
theorem d_L_law_1619 : decode cL_law 1619 = .ok (.iconst 0, 1) := by decide +kernel
theorem d_L_law_1620 : decode cL_law 1620 = .ok (.ireturn, 1) := by decide +kernel
set_option maxRecDepth 100000 in
theorem lb_1604 {p : Program} {l : Launch} {e : Env} {s : State} {m : MethodId} {args : Array Value} {below : List Frame} {meth : Method} {c : Code} {D : va_G} {ca : Nat → ClassId} {ad sx sy : Nat → Nat} {A : Nat → Prop} {Q : QT} {b L k : Nat} {xs : Nat → Int32} (hl0 : l.stackTraces = false) (hk : k < 600) (C0 : CX p s m args meth c cL_law 7 yL_law.cls D ca ad A) (hE : EX sx sy A s s.heap) (hr : meth.sig.returnType = some .boolean) (hno : ∀ x ∈ c.exceptionTable.toList, False) (hX : va_X b L xs s s.heap) (hbl : b < s.heap.size) (hbA : ¬ A b) (hL : L < 2147483648) : ∀ ls st M, wpl (LJ p l e s m args below meth c D ca ad A Q k) Q (b_L_law_1604 b L xs) ls st M → LJ p l e s m args below meth c D ca ad A Q k 1604 ls st M := s_il C0 (d_L_law_1604) (hgl rfl) (s_zne C0 (d_L_law_1606) (by decide) (hgl rfl) (hgl rfl) (fun _ _ _ h => h) (s_aln C0 (d_L_law_1609) (hgl rfl) (s_ic C0 (d_L_law_1610) (hgl rfl) (s_la C0 (d_L_law_1611) (hgl rfl) (s_il C0 (d_L_law_1612) (hgl rfl) (s_i2l C0 (d_L_law_1614) (hgl rfl) (s_lcmp C0 (d_L_law_1615) (hgl rfl) (s_zeq C0 (d_L_law_1616) (by decide) (hgl rfl) (hgl rfl) (fun _ _ _ h => h) (s_ic C0 (d_L_law_1619) (hgl rfl) (s_rz C0 hr (d_L_law_1620) (hfr hk)) (okn rfl))))))) (okn rfl))))
theorem d_L_law_1621 : decode cL_law 1621 = .ok (.goto 210, 3) := by decide +kernel
set_option maxRecDepth 100000 in
theorem lb_1621 {p : Program} {l : Launch} {e : Env} {s : State} {m : MethodId} {args : Array Value} {below : List Frame} {meth : Method} {c : Code} {D : va_G} {ca : Nat → ClassId} {ad sx sy : Nat → Nat} {A : Nat → Prop} {Q : QT} {b L k : Nat} {xs : Nat → Int32} (hl0 : l.stackTraces = false) (hk : k < 600) (C0 : CX p s m args meth c cL_law 7 yL_law.cls D ca ad A) (hE : EX sx sy A s s.heap) (hr : meth.sig.returnType = some .boolean) (hno : ∀ x ∈ c.exceptionTable.toList, False) (hX : va_X b L xs s s.heap) (hbl : b < s.heap.size) (hbA : ¬ A b) (hL : L < 2147483648) : ∀ ls st M, wpl (LJ p l e s m args below meth c D ca ad A Q k) Q (b_L_law_1621 b L xs) ls st M → LJ p l e s m args below meth c D ca ad A Q k 1621 ls st M := s_goto C0 (tgt := 1831) (d_L_law_1621) (by decide) (hgl rfl) (fun _ _ _ h => h)
theorem wg1621 : Cond.code ⟨"WeighedHallModel", "tired", "(I)I"⟩ prog_13_method_73_code 4 (Option.some .int) ∈ GT := gt_mem 1741 (by decide +kernel) rfl
theorem wg1618 : Cond.methodLink "WeighedHallLaw" 180 ⟨"WeighedHallModel", "tired", "(I)I"⟩ ∈ GT := gt_mem 1738 (by decide +kernel) rfl
theorem wg1619 : Cond.instanceMethod ⟨"WeighedHallModel", "tired", "(I)I"⟩ ∈ GT := gt_mem 1739 (by decide +kernel) rfl
theorem wg1620 : Cond.selects "WeighedHallModel" ⟨"WeighedHallModel", "tired", "(I)I"⟩ ⟨"WeighedHallModel", "tired", "(I)I"⟩ ∈ GT := gt_mem 1740 (by decide +kernel) rfl
theorem wg1169 : Cond.codeWith ⟨"WeighedHallLaw", "tired", "(LWeighedHall;I[J)I"⟩ method_23_code 4 (Option.some .int) [(0, 9, 12, 25)] ∈ GT := gt_mem 1289 (by decide +kernel) rfl
theorem wg1167 : Cond.methodLink "WeighedHallLaw" 178 ⟨"WeighedHallLaw", "tired", "(LWeighedHall;I[J)I"⟩ ∈ GT := gt_mem 1287 (by decide +kernel) rfl
theorem wg1168 : Cond.static ⟨"WeighedHallLaw", "tired", "(LWeighedHall;I[J)I"⟩ ∈ GT := gt_mem 1288 (by decide +kernel) rfl
theorem d_L_law_1624 : decode cL_law 1624 = .ok (.aload_n 1, 1) := by decide +kernel
theorem d_L_law_1625 : decode cL_law 1625 = .ok (.aload_n 0, 1) := by decide +kernel
theorem d_L_law_1626 : decode cL_law 1626 = .ok (.iload 4, 2) := by decide +kernel
theorem d_L_law_1628 : decode cL_law 1628 = .ok (.iconst 1, 1) := by decide +kernel
theorem d_L_law_1629 : decode cL_law 1629 = .ok (.iadd, 1) := by decide +kernel
theorem d_L_law_1630 : decode cL_law 1630 = .ok (.iaload, 1) := by decide +kernel
theorem d_L_law_1631 : decode cL_law 1631 = .ok (.aload_n 3, 1) := by decide +kernel
theorem d_L_law_1632 : decode cL_law 1632 = .ok (.invokestatic 178, 3) := by decide +kernel
theorem d_L_law_1635 : decode cL_law 1635 = .ok (.istore 5, 2) := by decide +kernel
theorem d_L_law_1637 : decode cL_law 1637 = .ok (.aload_n 2, 1) := by decide +kernel
theorem d_L_law_1638 : decode cL_law 1638 = .ok (.aload_n 0, 1) := by decide +kernel
theorem d_L_law_1639 : decode cL_law 1639 = .ok (.iload 4, 2) := by decide +kernel
theorem d_L_law_1641 : decode cL_law 1641 = .ok (.iconst 1, 1) := by decide +kernel
theorem d_L_law_1642 : decode cL_law 1642 = .ok (.iadd, 1) := by decide +kernel
theorem d_L_law_1643 : decode cL_law 1643 = .ok (.iaload, 1) := by decide +kernel
theorem d_L_law_1644 : decode cL_law 1644 = .ok (.invokevirtual 180, 3) := by decide +kernel
theorem d_L_law_1647 : decode cL_law 1647 = .ok (.istore 6, 2) := by decide +kernel
theorem d_L_law_1649 : decode cL_law 1649 = .ok (.aload_n 2, 1) := by decide +kernel
theorem d_L_law_1650 : decode cL_law 1650 = .ok (.invokevirtual 99, 3) := by decide +kernel
theorem d_L_law_1653 : decode cL_law 1653 = .ok (.iload 5, 2) := by decide +kernel
theorem d_L_law_1655 : decode cL_law 1655 = .ok (.if_icmp .eq 5, 3) := by decide +kernel
theorem d_L_law_1658 : decode cL_law 1658 = .ok (.iconst 0, 1) := by decide +kernel
theorem d_L_law_1659 : decode cL_law 1659 = .ok (.ireturn, 1) := by decide +kernel
set_option maxRecDepth 100000 in
theorem lb_1624 {p : Program} {l : Launch} {e : Env} {s : State} {m : MethodId} {args : Array Value} {below : List Frame} {meth : Method} {c : Code} {D : va_G} {ca : Nat → ClassId} {ad sx sy : Nat → Nat} {A : Nat → Prop} {Q : QT} {b L k : Nat} {xs : Nat → Int32} (hl0 : l.stackTraces = false) (hk : k < 600) (C0 : CX p s m args meth c cL_law 7 yL_law.cls D ca ad A) (hE : EX sx sy A s s.heap) (hr : meth.sig.returnType = some .boolean) (hno : ∀ x ∈ c.exceptionTable.toList, False) (hX : va_X b L xs s s.heap) (hbl : b < s.heap.size) (hbA : ¬ A b) (hL : L < 2147483648) : ∀ ls st M, wpl (LJ p l e s m args below meth c D ca ad A Q k) Q (b_L_law_1624 b L xs) ls st M → LJ p l e s m args below meth c D ca ad A Q k 1624 ls st M := s_aln C0 (d_L_law_1624) (hgl rfl) (s_aln C0 (d_L_law_1625) (hgl rfl) (s_il C0 (d_L_law_1626) (hgl rfl) (s_ic C0 (d_L_law_1628) (hgl rfl) (s_add C0 (d_L_law_1629) (hgl rfl) (s_scr C0 hX hbl hbA (d_L_law_1630) (hgl rfl) (s_aln C0 (d_L_law_1631) (hgl rfl) (s_callSH C0 hE (c_L_tired l hl0) wg1169 wg1167 wg1168 wg0 ⟨by decide, by decide⟩ (by decide +kernel) ⟨by decide, by decide⟩ (hfl hk rfl) (d_L_law_1632) (fun x hx => (hno x hx).elim) (hgc rfl rfl rfl) (hfl hk rfl) (s_is C0 (d_L_law_1635) (hgl rfl) (s_aln C0 (d_L_law_1637) (hgl rfl) (s_aln C0 (d_L_law_1638) (hgl rfl) (s_il C0 (d_L_law_1639) (hgl rfl) (s_ic C0 (d_L_law_1641) (hgl rfl) (s_add C0 (d_L_law_1642) (hgl rfl) (s_scr C0 hX hbl hbA (d_L_law_1643) (hgl rfl) (s_callV C0 hE (c_X11_tired l) wg1621 wg1618 wg1619 wg1620 wg12 ⟨by decide, by decide⟩ (by decide +kernel) (c0 := 11) rfl ⟨by decide, by decide⟩ (hfl hk rfl) (d_L_law_1644) (fun x hx => (hno x hx).elim) (hgc0 rfl) (hfl hk rfl) (s_is C0 (d_L_law_1647) (hgl rfl) (s_aln C0 (d_L_law_1649) (hgl rfl) (s_callV C0 hE (c_X11_thrown l) wg1344 wg1341 wg1342 wg1343 wg12 ⟨by decide, by decide⟩ (by decide +kernel) (c0 := 11) rfl ⟨by decide, by decide⟩ (hfl hk rfl) (d_L_law_1650) (fun x hx => (hno x hx).elim) (hgc0 rfl) (hfl hk rfl) (s_il C0 (d_L_law_1653) (hgl rfl) (s_ceq C0 (d_L_law_1655) (by decide) (hgl rfl) (hgl rfl) (fun _ _ _ h => h) (s_ic C0 (d_L_law_1658) (hgl rfl) (s_rz C0 hr (d_L_law_1659) (hfr hk)) (okn rfl)))))))))) (okn rfl)))))))))) (okn rfl))))
theorem d_L_law_1660 : decode cL_law 1660 = .ok (.iload 5, 2) := by decide +kernel
theorem d_L_law_1662 : decode cL_law 1662 = .ok (.ifCond .ne 15, 3) := by decide +kernel
theorem d_L_law_1665 : decode cL_law 1665 = .ok (.aload_n 3, 1) := by decide +kernel
theorem d_L_law_1666 : decode cL_law 1666 = .ok (.iconst 0, 1) := by decide +kernel
theorem d_L_law_1667 : decode cL_law 1667 = .ok (.laload, 1) := by decide +kernel
theorem d_L_law_1668 : decode cL_law 1668 = .ok (.iload 6, 2) := by decide +kernel
theorem d_L_law_1670 : decode cL_law 1670 = .ok (.i2l, 1) := by decide +kernel
theorem d_L_law_1671 : decode cL_law 1671 = .ok (.lcmp, 1) := by decide +kernel
theorem d_L_law_1672 : decode cL_law 1672 = .ok (.ifCond .eq 5, 3) := by decide +kernel
theorem d_L_law_1675 : decode cL_law 1675 = .ok (.iconst 0, 1) := by decide +kernel
theorem d_L_law_1676 : decode cL_law 1676 = .ok (.ireturn, 1) := by decide +kernel
set_option maxRecDepth 100000 in
theorem lb_1660 {p : Program} {l : Launch} {e : Env} {s : State} {m : MethodId} {args : Array Value} {below : List Frame} {meth : Method} {c : Code} {D : va_G} {ca : Nat → ClassId} {ad sx sy : Nat → Nat} {A : Nat → Prop} {Q : QT} {b L k : Nat} {xs : Nat → Int32} (hl0 : l.stackTraces = false) (hk : k < 600) (C0 : CX p s m args meth c cL_law 7 yL_law.cls D ca ad A) (hE : EX sx sy A s s.heap) (hr : meth.sig.returnType = some .boolean) (hno : ∀ x ∈ c.exceptionTable.toList, False) (hX : va_X b L xs s s.heap) (hbl : b < s.heap.size) (hbA : ¬ A b) (hL : L < 2147483648) : ∀ ls st M, wpl (LJ p l e s m args below meth c D ca ad A Q k) Q (b_L_law_1660 b L xs) ls st M → LJ p l e s m args below meth c D ca ad A Q k 1660 ls st M := s_il C0 (d_L_law_1660) (hgl rfl) (s_zne C0 (d_L_law_1662) (by decide) (hgl rfl) (hgl rfl) (fun _ _ _ h => h) (s_aln C0 (d_L_law_1665) (hgl rfl) (s_ic C0 (d_L_law_1666) (hgl rfl) (s_la C0 (d_L_law_1667) (hgl rfl) (s_il C0 (d_L_law_1668) (hgl rfl) (s_i2l C0 (d_L_law_1670) (hgl rfl) (s_lcmp C0 (d_L_law_1671) (hgl rfl) (s_zeq C0 (d_L_law_1672) (by decide) (hgl rfl) (hgl rfl) (fun _ _ _ h => h) (s_ic C0 (d_L_law_1675) (hgl rfl) (s_rz C0 hr (d_L_law_1676) (hfr hk)) (okn rfl))))))) (okn rfl))))
theorem d_L_law_1677 : decode cL_law 1677 = .ok (.goto 154, 3) := by decide +kernel
set_option maxRecDepth 100000 in
theorem lb_1677 {p : Program} {l : Launch} {e : Env} {s : State} {m : MethodId} {args : Array Value} {below : List Frame} {meth : Method} {c : Code} {D : va_G} {ca : Nat → ClassId} {ad sx sy : Nat → Nat} {A : Nat → Prop} {Q : QT} {b L k : Nat} {xs : Nat → Int32} (hl0 : l.stackTraces = false) (hk : k < 600) (C0 : CX p s m args meth c cL_law 7 yL_law.cls D ca ad A) (hE : EX sx sy A s s.heap) (hr : meth.sig.returnType = some .boolean) (hno : ∀ x ∈ c.exceptionTable.toList, False) (hX : va_X b L xs s s.heap) (hbl : b < s.heap.size) (hbA : ¬ A b) (hL : L < 2147483648) : ∀ ls st M, wpl (LJ p l e s m args below meth c D ca ad A Q k) Q (b_L_law_1677 b L xs) ls st M → LJ p l e s m args below meth c D ca ad A Q k 1677 ls st M := s_goto C0 (tgt := 1831) (d_L_law_1677) (by decide) (hgl rfl) (fun _ _ _ h => h)
theorem wg1629 : Cond.code ⟨"WeighedHallModel", "speech", "(II)Z"⟩ prog_13_method_74_code 3 (Option.some .boolean) ∈ GT := gt_mem 1749 (by decide +kernel) rfl
theorem wg1626 : Cond.methodLink "WeighedHallLaw" 183 ⟨"WeighedHallModel", "speech", "(II)Z"⟩ ∈ GT := gt_mem 1746 (by decide +kernel) rfl
theorem wg1627 : Cond.instanceMethod ⟨"WeighedHallModel", "speech", "(II)Z"⟩ ∈ GT := gt_mem 1747 (by decide +kernel) rfl
theorem wg1628 : Cond.selects "WeighedHallModel" ⟨"WeighedHallModel", "speech", "(II)Z"⟩ ⟨"WeighedHallModel", "speech", "(II)Z"⟩ ∈ GT := gt_mem 1748 (by decide +kernel) rfl
theorem wg1186 : Cond.codeWith ⟨"WeighedHallLaw", "speech", "(LWeighedHall;II[J)I"⟩ method_24_code 5 (Option.some .int) [(0, 17, 20, 25), (0, 17, 24, 13)] ∈ GT := gt_mem 1306 (by decide +kernel) rfl
theorem wg1184 : Cond.methodLink "WeighedHallLaw" 181 ⟨"WeighedHallLaw", "speech", "(LWeighedHall;II[J)I"⟩ ∈ GT := gt_mem 1304 (by decide +kernel) rfl
theorem wg1185 : Cond.static ⟨"WeighedHallLaw", "speech", "(LWeighedHall;II[J)I"⟩ ∈ GT := gt_mem 1305 (by decide +kernel) rfl
theorem d_L_law_1680 : decode cL_law 1680 = .ok (.aload_n 1, 1) := by decide +kernel
theorem d_L_law_1681 : decode cL_law 1681 = .ok (.aload_n 0, 1) := by decide +kernel
theorem d_L_law_1682 : decode cL_law 1682 = .ok (.iload 4, 2) := by decide +kernel
theorem d_L_law_1684 : decode cL_law 1684 = .ok (.iconst 1, 1) := by decide +kernel
theorem d_L_law_1685 : decode cL_law 1685 = .ok (.iadd, 1) := by decide +kernel
theorem d_L_law_1686 : decode cL_law 1686 = .ok (.iaload, 1) := by decide +kernel
theorem d_L_law_1687 : decode cL_law 1687 = .ok (.aload_n 0, 1) := by decide +kernel
theorem d_L_law_1688 : decode cL_law 1688 = .ok (.iload 4, 2) := by decide +kernel
theorem d_L_law_1690 : decode cL_law 1690 = .ok (.iconst 2, 1) := by decide +kernel
theorem d_L_law_1691 : decode cL_law 1691 = .ok (.iadd, 1) := by decide +kernel
theorem d_L_law_1692 : decode cL_law 1692 = .ok (.iaload, 1) := by decide +kernel
theorem d_L_law_1693 : decode cL_law 1693 = .ok (.aload_n 3, 1) := by decide +kernel
theorem d_L_law_1694 : decode cL_law 1694 = .ok (.invokestatic 181, 3) := by decide +kernel
theorem d_L_law_1697 : decode cL_law 1697 = .ok (.istore 5, 2) := by decide +kernel
theorem d_L_law_1699 : decode cL_law 1699 = .ok (.aload_n 2, 1) := by decide +kernel
theorem d_L_law_1700 : decode cL_law 1700 = .ok (.aload_n 0, 1) := by decide +kernel
theorem d_L_law_1701 : decode cL_law 1701 = .ok (.iload 4, 2) := by decide +kernel
theorem d_L_law_1703 : decode cL_law 1703 = .ok (.iconst 1, 1) := by decide +kernel
theorem d_L_law_1704 : decode cL_law 1704 = .ok (.iadd, 1) := by decide +kernel
theorem d_L_law_1705 : decode cL_law 1705 = .ok (.iaload, 1) := by decide +kernel
theorem d_L_law_1706 : decode cL_law 1706 = .ok (.aload_n 0, 1) := by decide +kernel
theorem d_L_law_1707 : decode cL_law 1707 = .ok (.iload 4, 2) := by decide +kernel
theorem d_L_law_1709 : decode cL_law 1709 = .ok (.iconst 2, 1) := by decide +kernel
theorem d_L_law_1710 : decode cL_law 1710 = .ok (.iadd, 1) := by decide +kernel
theorem d_L_law_1711 : decode cL_law 1711 = .ok (.iaload, 1) := by decide +kernel
theorem d_L_law_1712 : decode cL_law 1712 = .ok (.invokevirtual 183, 3) := by decide +kernel
theorem d_L_law_1715 : decode cL_law 1715 = .ok (.istore 6, 2) := by decide +kernel
theorem d_L_law_1717 : decode cL_law 1717 = .ok (.aload_n 2, 1) := by decide +kernel
theorem d_L_law_1718 : decode cL_law 1718 = .ok (.invokevirtual 99, 3) := by decide +kernel
theorem d_L_law_1721 : decode cL_law 1721 = .ok (.iload 5, 2) := by decide +kernel
theorem d_L_law_1723 : decode cL_law 1723 = .ok (.if_icmp .eq 5, 3) := by decide +kernel
theorem d_L_law_1726 : decode cL_law 1726 = .ok (.iconst 0, 1) := by decide +kernel
theorem d_L_law_1727 : decode cL_law 1727 = .ok (.ireturn, 1) := by decide +kernel
set_option maxRecDepth 100000 in
theorem lb_1680 {p : Program} {l : Launch} {e : Env} {s : State} {m : MethodId} {args : Array Value} {below : List Frame} {meth : Method} {c : Code} {D : va_G} {ca : Nat → ClassId} {ad sx sy : Nat → Nat} {A : Nat → Prop} {Q : QT} {b L k : Nat} {xs : Nat → Int32} (hl0 : l.stackTraces = false) (hk : k < 600) (C0 : CX p s m args meth c cL_law 7 yL_law.cls D ca ad A) (hE : EX sx sy A s s.heap) (hr : meth.sig.returnType = some .boolean) (hno : ∀ x ∈ c.exceptionTable.toList, False) (hX : va_X b L xs s s.heap) (hbl : b < s.heap.size) (hbA : ¬ A b) (hL : L < 2147483648) : ∀ ls st M, wpl (LJ p l e s m args below meth c D ca ad A Q k) Q (b_L_law_1680 b L xs) ls st M → LJ p l e s m args below meth c D ca ad A Q k 1680 ls st M := s_aln C0 (d_L_law_1680) (hgl rfl) (s_aln C0 (d_L_law_1681) (hgl rfl) (s_il C0 (d_L_law_1682) (hgl rfl) (s_ic C0 (d_L_law_1684) (hgl rfl) (s_add C0 (d_L_law_1685) (hgl rfl) (s_scr C0 hX hbl hbA (d_L_law_1686) (hgl rfl) (s_aln C0 (d_L_law_1687) (hgl rfl) (s_il C0 (d_L_law_1688) (hgl rfl) (s_ic C0 (d_L_law_1690) (hgl rfl) (s_add C0 (d_L_law_1691) (hgl rfl) (s_scr C0 hX hbl hbA (d_L_law_1692) (hgl rfl) (s_aln C0 (d_L_law_1693) (hgl rfl) (s_callSH C0 hE (c_L_speech l hl0) wg1186 wg1184 wg1185 wg0 ⟨by decide, by decide⟩ (by decide +kernel) ⟨by decide, by decide⟩ (hfl hk rfl) (d_L_law_1694) (fun x hx => (hno x hx).elim) (hgc rfl rfl rfl) (hfl hk rfl) (s_is C0 (d_L_law_1697) (hgl rfl) (s_aln C0 (d_L_law_1699) (hgl rfl) (s_aln C0 (d_L_law_1700) (hgl rfl) (s_il C0 (d_L_law_1701) (hgl rfl) (s_ic C0 (d_L_law_1703) (hgl rfl) (s_add C0 (d_L_law_1704) (hgl rfl) (s_scr C0 hX hbl hbA (d_L_law_1705) (hgl rfl) (s_aln C0 (d_L_law_1706) (hgl rfl) (s_il C0 (d_L_law_1707) (hgl rfl) (s_ic C0 (d_L_law_1709) (hgl rfl) (s_add C0 (d_L_law_1710) (hgl rfl) (s_scr C0 hX hbl hbA (d_L_law_1711) (hgl rfl) (s_callV C0 hE (c_X11_speech l) wg1629 wg1626 wg1627 wg1628 wg12 ⟨by decide, by decide⟩ (by decide +kernel) (c0 := 11) rfl ⟨by decide, by decide⟩ (hfl hk rfl) (d_L_law_1712) (fun x hx => (hno x hx).elim) (hgc0 rfl) (hfl hk rfl) (s_is C0 (d_L_law_1715) (hgl rfl) (s_aln C0 (d_L_law_1717) (hgl rfl) (s_callV C0 hE (c_X11_thrown l) wg1344 wg1341 wg1342 wg1343 wg12 ⟨by decide, by decide⟩ (by decide +kernel) (c0 := 11) rfl ⟨by decide, by decide⟩ (hfl hk rfl) (d_L_law_1718) (fun x hx => (hno x hx).elim) (hgc0 rfl) (hfl hk rfl) (s_il C0 (d_L_law_1721) (hgl rfl) (s_ceq C0 (d_L_law_1723) (by decide) (hgl rfl) (hgl rfl) (fun _ _ _ h => h) (s_ic C0 (d_L_law_1726) (hgl rfl) (s_rz C0 hr (d_L_law_1727) (hfr hk)) (okn rfl)))))))))) (okn rfl)))))) (okn rfl)))))))))) (okn rfl)))))) (okn rfl))))
theorem d_L_law_1728 : decode cL_law 1728 = .ok (.iload 5, 2) := by decide +kernel
theorem d_L_law_1730 : decode cL_law 1730 = .ok (.ifCond .ne 22, 3) := by decide +kernel
theorem d_L_law_1733 : decode cL_law 1733 = .ok (.aload_n 3, 1) := by decide +kernel
theorem d_L_law_1734 : decode cL_law 1734 = .ok (.iconst 0, 1) := by decide +kernel
theorem d_L_law_1735 : decode cL_law 1735 = .ok (.laload, 1) := by decide +kernel
theorem d_L_law_1736 : decode cL_law 1736 = .ok (.iload 6, 2) := by decide +kernel
theorem d_L_law_1738 : decode cL_law 1738 = .ok (.ifCond .eq 7, 3) := by decide +kernel
theorem d_L_law_1741 : decode cL_law 1741 = .ok (.lconst 1, 1) := by decide +kernel
theorem d_L_law_1742 : decode cL_law 1742 = .ok (.goto 4, 3) := by decide +kernel
set_option maxRecDepth 100000 in
theorem lb_1728 {p : Program} {l : Launch} {e : Env} {s : State} {m : MethodId} {args : Array Value} {below : List Frame} {meth : Method} {c : Code} {D : va_G} {ca : Nat → ClassId} {ad sx sy : Nat → Nat} {A : Nat → Prop} {Q : QT} {b L k : Nat} {xs : Nat → Int32} (hl0 : l.stackTraces = false) (hk : k < 600) (C0 : CX p s m args meth c cL_law 7 yL_law.cls D ca ad A) (hE : EX sx sy A s s.heap) (hr : meth.sig.returnType = some .boolean) (hno : ∀ x ∈ c.exceptionTable.toList, False) (hX : va_X b L xs s s.heap) (hbl : b < s.heap.size) (hbA : ¬ A b) (hL : L < 2147483648) : ∀ ls st M, wpl (LJ p l e s m args below meth c D ca ad A Q k) Q (b_L_law_1728 b L xs) ls st M → LJ p l e s m args below meth c D ca ad A Q k 1728 ls st M := s_il C0 (d_L_law_1728) (hgl rfl) (s_zne C0 (d_L_law_1730) (by decide) (hgl rfl) (hgl rfl) (fun _ _ _ h => h) (s_aln C0 (d_L_law_1733) (hgl rfl) (s_ic C0 (d_L_law_1734) (hgl rfl) (s_la C0 (d_L_law_1735) (hgl rfl) (s_il C0 (d_L_law_1736) (hgl rfl) (s_zeq C0 (d_L_law_1738) (by decide) (hgl rfl) (hgl rfl) (fun _ _ _ h => h) (s_lcn C0 (d_L_law_1741) (hgl rfl) (s_goto C0 (tgt := 1746) (d_L_law_1742) (by decide) (hgl rfl) (fun _ _ _ h => h)) rfl (okn2 rfl))))) (okn rfl))))
theorem d_L_law_1745 : decode cL_law 1745 = .ok (.lconst 0, 1) := by decide +kernel
set_option maxRecDepth 100000 in
theorem lb_1745 {p : Program} {l : Launch} {e : Env} {s : State} {m : MethodId} {args : Array Value} {below : List Frame} {meth : Method} {c : Code} {D : va_G} {ca : Nat → ClassId} {ad sx sy : Nat → Nat} {A : Nat → Prop} {Q : QT} {b L k : Nat} {xs : Nat → Int32} (hl0 : l.stackTraces = false) (hk : k < 600) (C0 : CX p s m args meth c cL_law 7 yL_law.cls D ca ad A) (hE : EX sx sy A s s.heap) (hr : meth.sig.returnType = some .boolean) (hno : ∀ x ∈ c.exceptionTable.toList, False) (hX : va_X b L xs s s.heap) (hbl : b < s.heap.size) (hbA : ¬ A b) (hL : L < 2147483648) : ∀ ls st M, wpl (LJ p l e s m args below meth c D ca ad A Q k) Q (b_L_law_1745 b L xs) ls st M → LJ p l e s m args below meth c D ca ad A Q k 1745 ls st M := s_lcn C0 (d_L_law_1745) (hgl rfl) (fun _ _ _ h => h) rfl (okn2 rfl)
theorem d_L_law_1746 : decode cL_law 1746 = .ok (.lcmp, 1) := by decide +kernel
theorem d_L_law_1747 : decode cL_law 1747 = .ok (.ifCond .eq 5, 3) := by decide +kernel
theorem d_L_law_1750 : decode cL_law 1750 = .ok (.iconst 0, 1) := by decide +kernel
theorem d_L_law_1751 : decode cL_law 1751 = .ok (.ireturn, 1) := by decide +kernel
set_option maxRecDepth 100000 in
theorem lb_1746 {p : Program} {l : Launch} {e : Env} {s : State} {m : MethodId} {args : Array Value} {below : List Frame} {meth : Method} {c : Code} {D : va_G} {ca : Nat → ClassId} {ad sx sy : Nat → Nat} {A : Nat → Prop} {Q : QT} {b L k : Nat} {xs : Nat → Int32} (hl0 : l.stackTraces = false) (hk : k < 600) (C0 : CX p s m args meth c cL_law 7 yL_law.cls D ca ad A) (hE : EX sx sy A s s.heap) (hr : meth.sig.returnType = some .boolean) (hno : ∀ x ∈ c.exceptionTable.toList, False) (hX : va_X b L xs s s.heap) (hbl : b < s.heap.size) (hbA : ¬ A b) (hL : L < 2147483648) : ∀ ls st M, wpl (LJ p l e s m args below meth c D ca ad A Q k) Q (b_L_law_1746 b L xs) ls st M → LJ p l e s m args below meth c D ca ad A Q k 1746 ls st M := s_lcmp C0 (d_L_law_1746) (hgl rfl) (s_zeq C0 (d_L_law_1747) (by decide) (hgl rfl) (hgl rfl) (fun _ _ _ h => h) (s_ic C0 (d_L_law_1750) (hgl rfl) (s_rz C0 hr (d_L_law_1751) (hfr hk)) (okn rfl)))
theorem d_L_law_1752 : decode cL_law 1752 = .ok (.goto 79, 3) := by decide +kernel
set_option maxRecDepth 100000 in
theorem lb_1752 {p : Program} {l : Launch} {e : Env} {s : State} {m : MethodId} {args : Array Value} {below : List Frame} {meth : Method} {c : Code} {D : va_G} {ca : Nat → ClassId} {ad sx sy : Nat → Nat} {A : Nat → Prop} {Q : QT} {b L k : Nat} {xs : Nat → Int32} (hl0 : l.stackTraces = false) (hk : k < 600) (C0 : CX p s m args meth c cL_law 7 yL_law.cls D ca ad A) (hE : EX sx sy A s s.heap) (hr : meth.sig.returnType = some .boolean) (hno : ∀ x ∈ c.exceptionTable.toList, False) (hX : va_X b L xs s s.heap) (hbl : b < s.heap.size) (hbA : ¬ A b) (hL : L < 2147483648) : ∀ ls st M, wpl (LJ p l e s m args below meth c D ca ad A Q k) Q (b_L_law_1752 b L xs) ls st M → LJ p l e s m args below meth c D ca ad A Q k 1752 ls st M := s_goto C0 (tgt := 1831) (d_L_law_1752) (by decide) (hgl rfl) (fun _ _ _ h => h)
theorem wg1633 : Cond.code ⟨"WeighedHallModel", "image", "()I"⟩ prog_13_method_77_code 1 (Option.some .int) ∈ GT := gt_mem 1753 (by decide +kernel) rfl
theorem wg1630 : Cond.methodLink "WeighedHallLaw" 187 ⟨"WeighedHallModel", "image", "()I"⟩ ∈ GT := gt_mem 1750 (by decide +kernel) rfl
theorem wg1631 : Cond.instanceMethod ⟨"WeighedHallModel", "image", "()I"⟩ ∈ GT := gt_mem 1751 (by decide +kernel) rfl
theorem wg1632 : Cond.selects "WeighedHallModel" ⟨"WeighedHallModel", "image", "()I"⟩ ⟨"WeighedHallModel", "image", "()I"⟩ ∈ GT := gt_mem 1752 (by decide +kernel) rfl
theorem wg527 : Cond.code ⟨"WeighedHall", "image", "()I"⟩ prog_1_method_29_code 1 (Option.some .int) ∈ GT := gt_mem 647 (by decide +kernel) rfl
theorem wg524 : Cond.methodLink "WeighedHallLaw" 184 ⟨"WeighedHall", "image", "()I"⟩ ∈ GT := gt_mem 644 (by decide +kernel) rfl
theorem wg525 : Cond.instanceMethod ⟨"WeighedHall", "image", "()I"⟩ ∈ GT := gt_mem 645 (by decide +kernel) rfl
theorem wg526 : Cond.selects "WeighedHall" ⟨"WeighedHall", "image", "()I"⟩ ⟨"WeighedHall", "image", "()I"⟩ ∈ GT := gt_mem 646 (by decide +kernel) rfl
theorem d_L_law_1755 : decode cL_law 1755 = .ok (.aload_n 1, 1) := by decide +kernel
theorem d_L_law_1756 : decode cL_law 1756 = .ok (.invokevirtual 184, 3) := by decide +kernel
theorem d_L_law_1759 : decode cL_law 1759 = .ok (.aload_n 2, 1) := by decide +kernel
theorem d_L_law_1760 : decode cL_law 1760 = .ok (.invokevirtual 187, 3) := by decide +kernel
theorem d_L_law_1763 : decode cL_law 1763 = .ok (.if_icmp .eq 68, 3) := by decide +kernel
theorem d_L_law_1766 : decode cL_law 1766 = .ok (.iconst 0, 1) := by decide +kernel
theorem d_L_law_1767 : decode cL_law 1767 = .ok (.ireturn, 1) := by decide +kernel
set_option maxRecDepth 100000 in
theorem lb_1755 {p : Program} {l : Launch} {e : Env} {s : State} {m : MethodId} {args : Array Value} {below : List Frame} {meth : Method} {c : Code} {D : va_G} {ca : Nat → ClassId} {ad sx sy : Nat → Nat} {A : Nat → Prop} {Q : QT} {b L k : Nat} {xs : Nat → Int32} (hl0 : l.stackTraces = false) (hk : k < 600) (C0 : CX p s m args meth c cL_law 7 yL_law.cls D ca ad A) (hE : EX sx sy A s s.heap) (hr : meth.sig.returnType = some .boolean) (hno : ∀ x ∈ c.exceptionTable.toList, False) (hX : va_X b L xs s s.heap) (hbl : b < s.heap.size) (hbA : ¬ A b) (hL : L < 2147483648) : ∀ ls st M, wpl (LJ p l e s m args below meth c D ca ad A Q k) Q (b_L_law_1755 b L xs) ls st M → LJ p l e s m args below meth c D ca ad A Q k 1755 ls st M := s_aln C0 (d_L_law_1755) (hgl rfl) (s_callV C0 hE (c_X10_image l) wg527 wg524 wg525 wg526 wg1 ⟨by decide, by decide⟩ (by decide +kernel) (c0 := 10) rfl ⟨by decide, by decide⟩ (hfl hk rfl) (d_L_law_1756) (fun x hx => (hno x hx).elim) (hgc0 rfl) (hfl hk rfl) (s_aln C0 (d_L_law_1759) (hgl rfl) (s_callV C0 hE (c_X11_image l) wg1633 wg1630 wg1631 wg1632 wg12 ⟨by decide, by decide⟩ (by decide +kernel) (c0 := 11) rfl ⟨by decide, by decide⟩ (hfl hk rfl) (d_L_law_1760) (fun x hx => (hno x hx).elim) (hgc0 rfl) (hfl hk rfl) (s_ceq C0 (d_L_law_1763) (by decide) (hgl rfl) (hgl rfl) (fun _ _ _ h => h) (s_ic C0 (d_L_law_1766) (hgl rfl) (s_rz C0 hr (d_L_law_1767) (hfr hk)) (okn rfl))))))
theorem wg1645 : Cond.code ⟨"WeighedHallModel", "restore", "()I"⟩ prog_13_method_78_code 1 (Option.some .int) ∈ GT := gt_mem 1765 (by decide +kernel) rfl
theorem wg1642 : Cond.methodLink "WeighedHallLaw" 191 ⟨"WeighedHallModel", "restore", "()I"⟩ ∈ GT := gt_mem 1762 (by decide +kernel) rfl
theorem wg1643 : Cond.instanceMethod ⟨"WeighedHallModel", "restore", "()I"⟩ ∈ GT := gt_mem 1763 (by decide +kernel) rfl
theorem wg1644 : Cond.selects "WeighedHallModel" ⟨"WeighedHallModel", "restore", "()I"⟩ ⟨"WeighedHallModel", "restore", "()I"⟩ ∈ GT := gt_mem 1764 (by decide +kernel) rfl
theorem wg543 : Cond.code ⟨"WeighedHall", "restore", "()I"⟩ prog_1_method_30_code 1 (Option.some .int) ∈ GT := gt_mem 663 (by decide +kernel) rfl
theorem wg540 : Cond.methodLink "WeighedHallLaw" 188 ⟨"WeighedHall", "restore", "()I"⟩ ∈ GT := gt_mem 660 (by decide +kernel) rfl
theorem wg541 : Cond.instanceMethod ⟨"WeighedHall", "restore", "()I"⟩ ∈ GT := gt_mem 661 (by decide +kernel) rfl
theorem wg542 : Cond.selects "WeighedHall" ⟨"WeighedHall", "restore", "()I"⟩ ⟨"WeighedHall", "restore", "()I"⟩ ∈ GT := gt_mem 662 (by decide +kernel) rfl
theorem d_L_law_1768 : decode cL_law 1768 = .ok (.aload_n 1, 1) := by decide +kernel
theorem d_L_law_1769 : decode cL_law 1769 = .ok (.invokevirtual 188, 3) := by decide +kernel
theorem d_L_law_1772 : decode cL_law 1772 = .ok (.aload_n 2, 1) := by decide +kernel
theorem d_L_law_1773 : decode cL_law 1773 = .ok (.invokevirtual 191, 3) := by decide +kernel
theorem d_L_law_1776 : decode cL_law 1776 = .ok (.if_icmp .eq 55, 3) := by decide +kernel
theorem d_L_law_1779 : decode cL_law 1779 = .ok (.iconst 0, 1) := by decide +kernel
theorem d_L_law_1780 : decode cL_law 1780 = .ok (.ireturn, 1) := by decide +kernel
set_option maxRecDepth 100000 in
theorem lb_1768 {p : Program} {l : Launch} {e : Env} {s : State} {m : MethodId} {args : Array Value} {below : List Frame} {meth : Method} {c : Code} {D : va_G} {ca : Nat → ClassId} {ad sx sy : Nat → Nat} {A : Nat → Prop} {Q : QT} {b L k : Nat} {xs : Nat → Int32} (hl0 : l.stackTraces = false) (hk : k < 600) (C0 : CX p s m args meth c cL_law 7 yL_law.cls D ca ad A) (hE : EX sx sy A s s.heap) (hr : meth.sig.returnType = some .boolean) (hno : ∀ x ∈ c.exceptionTable.toList, False) (hX : va_X b L xs s s.heap) (hbl : b < s.heap.size) (hbA : ¬ A b) (hL : L < 2147483648) : ∀ ls st M, wpl (LJ p l e s m args below meth c D ca ad A Q k) Q (b_L_law_1768 b L xs) ls st M → LJ p l e s m args below meth c D ca ad A Q k 1768 ls st M := s_aln C0 (d_L_law_1768) (hgl rfl) (s_callV C0 hE (c_X10_restore l) wg543 wg540 wg541 wg542 wg1 ⟨by decide, by decide⟩ (by decide +kernel) (c0 := 10) rfl ⟨by decide, by decide⟩ (hfl hk rfl) (d_L_law_1769) (fun x hx => (hno x hx).elim) (hgc0 rfl) (hfl hk rfl) (s_aln C0 (d_L_law_1772) (hgl rfl) (s_callV C0 hE (c_X11_restore l) wg1645 wg1642 wg1643 wg1644 wg12 ⟨by decide, by decide⟩ (by decide +kernel) (c0 := 11) rfl ⟨by decide, by decide⟩ (hfl hk rfl) (d_L_law_1773) (fun x hx => (hno x hx).elim) (hgc0 rfl) (hfl hk rfl) (s_ceq C0 (d_L_law_1776) (by decide) (hgl rfl) (hgl rfl) (fun _ _ _ h => h) (s_ic C0 (d_L_law_1779) (hgl rfl) (s_rz C0 hr (d_L_law_1780) (hfr hk)) (okn rfl))))))
theorem wg1649 : Cond.code ⟨"WeighedHallModel", "status", "(I)I"⟩ prog_13_method_79_code 2 (Option.some .int) ∈ GT := gt_mem 1769 (by decide +kernel) rfl
theorem wg1646 : Cond.methodLink "WeighedHallLaw" 195 ⟨"WeighedHallModel", "status", "(I)I"⟩ ∈ GT := gt_mem 1766 (by decide +kernel) rfl
theorem wg1647 : Cond.instanceMethod ⟨"WeighedHallModel", "status", "(I)I"⟩ ∈ GT := gt_mem 1767 (by decide +kernel) rfl
theorem wg1648 : Cond.selects "WeighedHallModel" ⟨"WeighedHallModel", "status", "(I)I"⟩ ⟨"WeighedHallModel", "status", "(I)I"⟩ ∈ GT := gt_mem 1768 (by decide +kernel) rfl
theorem wg547 : Cond.code ⟨"WeighedHall", "status", "(I)I"⟩ prog_1_method_31_code 2 (Option.some .int) ∈ GT := gt_mem 667 (by decide +kernel) rfl
theorem wg544 : Cond.methodLink "WeighedHallLaw" 192 ⟨"WeighedHall", "status", "(I)I"⟩ ∈ GT := gt_mem 664 (by decide +kernel) rfl
theorem wg545 : Cond.instanceMethod ⟨"WeighedHall", "status", "(I)I"⟩ ∈ GT := gt_mem 665 (by decide +kernel) rfl
theorem wg546 : Cond.selects "WeighedHall" ⟨"WeighedHall", "status", "(I)I"⟩ ⟨"WeighedHall", "status", "(I)I"⟩ ∈ GT := gt_mem 666 (by decide +kernel) rfl
theorem d_L_law_1781 : decode cL_law 1781 = .ok (.aload_n 1, 1) := by decide +kernel
theorem d_L_law_1782 : decode cL_law 1782 = .ok (.aload_n 0, 1) := by decide +kernel
theorem d_L_law_1783 : decode cL_law 1783 = .ok (.iload 4, 2) := by decide +kernel
theorem d_L_law_1785 : decode cL_law 1785 = .ok (.iconst 1, 1) := by decide +kernel
theorem d_L_law_1786 : decode cL_law 1786 = .ok (.iadd, 1) := by decide +kernel
theorem d_L_law_1787 : decode cL_law 1787 = .ok (.iaload, 1) := by decide +kernel
theorem d_L_law_1788 : decode cL_law 1788 = .ok (.invokevirtual 192, 3) := by decide +kernel
theorem d_L_law_1791 : decode cL_law 1791 = .ok (.aload_n 2, 1) := by decide +kernel
theorem d_L_law_1792 : decode cL_law 1792 = .ok (.aload_n 0, 1) := by decide +kernel
theorem d_L_law_1793 : decode cL_law 1793 = .ok (.iload 4, 2) := by decide +kernel
theorem d_L_law_1795 : decode cL_law 1795 = .ok (.iconst 1, 1) := by decide +kernel
theorem d_L_law_1796 : decode cL_law 1796 = .ok (.iadd, 1) := by decide +kernel
theorem d_L_law_1797 : decode cL_law 1797 = .ok (.iaload, 1) := by decide +kernel
theorem d_L_law_1798 : decode cL_law 1798 = .ok (.invokevirtual 195, 3) := by decide +kernel
theorem d_L_law_1801 : decode cL_law 1801 = .ok (.if_icmp .eq 30, 3) := by decide +kernel
theorem d_L_law_1804 : decode cL_law 1804 = .ok (.iconst 0, 1) := by decide +kernel
theorem d_L_law_1805 : decode cL_law 1805 = .ok (.ireturn, 1) := by decide +kernel
set_option maxRecDepth 100000 in
theorem lb_1781 {p : Program} {l : Launch} {e : Env} {s : State} {m : MethodId} {args : Array Value} {below : List Frame} {meth : Method} {c : Code} {D : va_G} {ca : Nat → ClassId} {ad sx sy : Nat → Nat} {A : Nat → Prop} {Q : QT} {b L k : Nat} {xs : Nat → Int32} (hl0 : l.stackTraces = false) (hk : k < 600) (C0 : CX p s m args meth c cL_law 7 yL_law.cls D ca ad A) (hE : EX sx sy A s s.heap) (hr : meth.sig.returnType = some .boolean) (hno : ∀ x ∈ c.exceptionTable.toList, False) (hX : va_X b L xs s s.heap) (hbl : b < s.heap.size) (hbA : ¬ A b) (hL : L < 2147483648) : ∀ ls st M, wpl (LJ p l e s m args below meth c D ca ad A Q k) Q (b_L_law_1781 b L xs) ls st M → LJ p l e s m args below meth c D ca ad A Q k 1781 ls st M := s_aln C0 (d_L_law_1781) (hgl rfl) (s_aln C0 (d_L_law_1782) (hgl rfl) (s_il C0 (d_L_law_1783) (hgl rfl) (s_ic C0 (d_L_law_1785) (hgl rfl) (s_add C0 (d_L_law_1786) (hgl rfl) (s_scr C0 hX hbl hbA (d_L_law_1787) (hgl rfl) (s_callV C0 hE (c_X10_status l) wg547 wg544 wg545 wg546 wg1 ⟨by decide, by decide⟩ (by decide +kernel) (c0 := 10) rfl ⟨by decide, by decide⟩ (hfl hk rfl) (d_L_law_1788) (fun x hx => (hno x hx).elim) (hgc0 rfl) (hfl hk rfl) (s_aln C0 (d_L_law_1791) (hgl rfl) (s_aln C0 (d_L_law_1792) (hgl rfl) (s_il C0 (d_L_law_1793) (hgl rfl) (s_ic C0 (d_L_law_1795) (hgl rfl) (s_add C0 (d_L_law_1796) (hgl rfl) (s_scr C0 hX hbl hbA (d_L_law_1797) (hgl rfl) (s_callV C0 hE (c_X11_status l) wg1649 wg1646 wg1647 wg1648 wg12 ⟨by decide, by decide⟩ (by decide +kernel) (c0 := 11) rfl ⟨by decide, by decide⟩ (hfl hk rfl) (d_L_law_1798) (fun x hx => (hno x hx).elim) (hgc0 rfl) (hfl hk rfl) (s_ceq C0 (d_L_law_1801) (by decide) (hgl rfl) (hgl rfl) (fun _ _ _ h => h) (s_ic C0 (d_L_law_1804) (hgl rfl) (s_rz C0 hr (d_L_law_1805) (hfr hk)) (okn rfl)))))) (okn rfl)))))))) (okn rfl))))
theorem wg1653 : Cond.code ⟨"WeighedHallModel", "count", "(I)I"⟩ prog_13_method_80_code 2 (Option.some .int) ∈ GT := gt_mem 1773 (by decide +kernel) rfl
theorem wg1650 : Cond.methodLink "WeighedHallLaw" 199 ⟨"WeighedHallModel", "count", "(I)I"⟩ ∈ GT := gt_mem 1770 (by decide +kernel) rfl
theorem wg1651 : Cond.instanceMethod ⟨"WeighedHallModel", "count", "(I)I"⟩ ∈ GT := gt_mem 1771 (by decide +kernel) rfl
theorem wg1652 : Cond.selects "WeighedHallModel" ⟨"WeighedHallModel", "count", "(I)I"⟩ ⟨"WeighedHallModel", "count", "(I)I"⟩ ∈ GT := gt_mem 1772 (by decide +kernel) rfl
theorem wg551 : Cond.code ⟨"WeighedHall", "count", "(I)I"⟩ prog_1_method_32_code 2 (Option.some .int) ∈ GT := gt_mem 671 (by decide +kernel) rfl
theorem wg548 : Cond.methodLink "WeighedHallLaw" 196 ⟨"WeighedHall", "count", "(I)I"⟩ ∈ GT := gt_mem 668 (by decide +kernel) rfl
theorem wg549 : Cond.instanceMethod ⟨"WeighedHall", "count", "(I)I"⟩ ∈ GT := gt_mem 669 (by decide +kernel) rfl
theorem wg550 : Cond.selects "WeighedHall" ⟨"WeighedHall", "count", "(I)I"⟩ ⟨"WeighedHall", "count", "(I)I"⟩ ∈ GT := gt_mem 670 (by decide +kernel) rfl
theorem d_L_law_1806 : decode cL_law 1806 = .ok (.aload_n 1, 1) := by decide +kernel
theorem d_L_law_1807 : decode cL_law 1807 = .ok (.aload_n 0, 1) := by decide +kernel
theorem d_L_law_1808 : decode cL_law 1808 = .ok (.iload 4, 2) := by decide +kernel
theorem d_L_law_1810 : decode cL_law 1810 = .ok (.iconst 1, 1) := by decide +kernel
theorem d_L_law_1811 : decode cL_law 1811 = .ok (.iadd, 1) := by decide +kernel
theorem d_L_law_1812 : decode cL_law 1812 = .ok (.iaload, 1) := by decide +kernel
theorem d_L_law_1813 : decode cL_law 1813 = .ok (.invokevirtual 196, 3) := by decide +kernel
theorem d_L_law_1816 : decode cL_law 1816 = .ok (.aload_n 2, 1) := by decide +kernel
theorem d_L_law_1817 : decode cL_law 1817 = .ok (.aload_n 0, 1) := by decide +kernel
theorem d_L_law_1818 : decode cL_law 1818 = .ok (.iload 4, 2) := by decide +kernel
theorem d_L_law_1820 : decode cL_law 1820 = .ok (.iconst 1, 1) := by decide +kernel
theorem d_L_law_1821 : decode cL_law 1821 = .ok (.iadd, 1) := by decide +kernel
theorem d_L_law_1822 : decode cL_law 1822 = .ok (.iaload, 1) := by decide +kernel
theorem d_L_law_1823 : decode cL_law 1823 = .ok (.invokevirtual 199, 3) := by decide +kernel
theorem d_L_law_1826 : decode cL_law 1826 = .ok (.if_icmp .eq 5, 3) := by decide +kernel
theorem d_L_law_1829 : decode cL_law 1829 = .ok (.iconst 0, 1) := by decide +kernel
theorem d_L_law_1830 : decode cL_law 1830 = .ok (.ireturn, 1) := by decide +kernel
set_option maxRecDepth 100000 in
theorem lb_1806 {p : Program} {l : Launch} {e : Env} {s : State} {m : MethodId} {args : Array Value} {below : List Frame} {meth : Method} {c : Code} {D : va_G} {ca : Nat → ClassId} {ad sx sy : Nat → Nat} {A : Nat → Prop} {Q : QT} {b L k : Nat} {xs : Nat → Int32} (hl0 : l.stackTraces = false) (hk : k < 600) (C0 : CX p s m args meth c cL_law 7 yL_law.cls D ca ad A) (hE : EX sx sy A s s.heap) (hr : meth.sig.returnType = some .boolean) (hno : ∀ x ∈ c.exceptionTable.toList, False) (hX : va_X b L xs s s.heap) (hbl : b < s.heap.size) (hbA : ¬ A b) (hL : L < 2147483648) : ∀ ls st M, wpl (LJ p l e s m args below meth c D ca ad A Q k) Q (b_L_law_1806 b L xs) ls st M → LJ p l e s m args below meth c D ca ad A Q k 1806 ls st M := s_aln C0 (d_L_law_1806) (hgl rfl) (s_aln C0 (d_L_law_1807) (hgl rfl) (s_il C0 (d_L_law_1808) (hgl rfl) (s_ic C0 (d_L_law_1810) (hgl rfl) (s_add C0 (d_L_law_1811) (hgl rfl) (s_scr C0 hX hbl hbA (d_L_law_1812) (hgl rfl) (s_callV C0 hE (c_X10_count l) wg551 wg548 wg549 wg550 wg1 ⟨by decide, by decide⟩ (by decide +kernel) (c0 := 10) rfl ⟨by decide, by decide⟩ (hfl hk rfl) (d_L_law_1813) (fun x hx => (hno x hx).elim) (hgc0 rfl) (hfl hk rfl) (s_aln C0 (d_L_law_1816) (hgl rfl) (s_aln C0 (d_L_law_1817) (hgl rfl) (s_il C0 (d_L_law_1818) (hgl rfl) (s_ic C0 (d_L_law_1820) (hgl rfl) (s_add C0 (d_L_law_1821) (hgl rfl) (s_scr C0 hX hbl hbA (d_L_law_1822) (hgl rfl) (s_callV C0 hE (c_X11_count l) wg1653 wg1650 wg1651 wg1652 wg12 ⟨by decide, by decide⟩ (by decide +kernel) (c0 := 11) rfl ⟨by decide, by decide⟩ (hfl hk rfl) (d_L_law_1823) (fun x hx => (hno x hx).elim) (hgc0 rfl) (hfl hk rfl) (s_ceq C0 (d_L_law_1826) (by decide) (hgl rfl) (hgl rfl) (fun _ _ _ h => h) (s_ic C0 (d_L_law_1829) (hgl rfl) (s_rz C0 hr (d_L_law_1830) (hfr hk)) (okn rfl)))))) (okn rfl)))))))) (okn rfl))))
theorem d_L_law_1831 : decode cL_law 1831 = .ok (.iinc 4 6, 3) := by decide +kernel
theorem d_L_law_1834 : decode cL_law 1834 = .ok (.goto (-1811), 3) := by decide +kernel
set_option maxRecDepth 100000 in
theorem lb_1831 {p : Program} {l : Launch} {e : Env} {s : State} {m : MethodId} {args : Array Value} {below : List Frame} {meth : Method} {c : Code} {D : va_G} {ca : Nat → ClassId} {ad sx sy : Nat → Nat} {A : Nat → Prop} {Q : QT} {b L k : Nat} {xs : Nat → Int32} (hl0 : l.stackTraces = false) (hk : k < 600) (C0 : CX p s m args meth c cL_law 7 yL_law.cls D ca ad A) (hE : EX sx sy A s s.heap) (hr : meth.sig.returnType = some .boolean) (hno : ∀ x ∈ c.exceptionTable.toList, False) (hX : va_X b L xs s s.heap) (hbl : b < s.heap.size) (hbA : ¬ A b) (hL : L < 2147483648) : ∀ ls st M, wpl (LJ p l e s m args below meth c D ca ad A Q k) Q (b_L_law_1831 b L xs) ls st M → LJ p l e s m args below meth c D ca ad A Q k 1831 ls st M := s_inc C0 (d_L_law_1831) (hgl rfl) (s_goto C0 (tgt := 23) (d_L_law_1834) (by decide) (hgl rfl) (fun _ _ _ h => h))
theorem d_L_law_1837 : decode cL_law 1837 = .ok (.iconst 1, 1) := by decide +kernel
theorem d_L_law_1838 : decode cL_law 1838 = .ok (.ireturn, 1) := by decide +kernel
set_option maxRecDepth 100000 in
theorem lb_1837 {p : Program} {l : Launch} {e : Env} {s : State} {m : MethodId} {args : Array Value} {below : List Frame} {meth : Method} {c : Code} {D : va_G} {ca : Nat → ClassId} {ad sx sy : Nat → Nat} {A : Nat → Prop} {Q : QT} {b L k : Nat} {xs : Nat → Int32} (hl0 : l.stackTraces = false) (hk : k < 600) (C0 : CX p s m args meth c cL_law 7 yL_law.cls D ca ad A) (hE : EX sx sy A s s.heap) (hr : meth.sig.returnType = some .boolean) (hno : ∀ x ∈ c.exceptionTable.toList, False) (hX : va_X b L xs s s.heap) (hbl : b < s.heap.size) (hbA : ¬ A b) (hL : L < 2147483648) : ∀ ls st M, wpl (LJ p l e s m args below meth c D ca ad A Q k) Q (b_L_law_1837 b L xs) ls st M → LJ p l e s m args below meth c D ca ad A Q k 1837 ls st M := s_ic C0 (d_L_law_1837) (hgl rfl) (s_rz C0 hr (d_L_law_1838) (hfr hk)) (okn rfl)
theorem L_law {p : Program} {l : Launch} {e : Env} {s : State} {m : MethodId} {args : Array Value} {below : List Frame} {meth : Method} {c : Code} {D : va_G} {ca : Nat → ClassId} {ad sx sy : Nat → Nat} {A : Nat → Prop} {Q : QT} {b L k : Nat} {xs : Nat → Int32} (hl0 : l.stackTraces = false) (hk : k < 600) (C0 : CX p s m args meth c cL_law 7 yL_law.cls D ca ad A) (hE : EX sx sy A s s.heap) (hr : meth.sig.returnType = some .boolean) (hno : ∀ x ∈ c.exceptionTable.toList, False) (hX : va_X b L xs s s.heap) (hbl : b < s.heap.size) (hbA : ¬ A b) (hL : L < 2147483648) : R_L_law b L xs (LJ p l e s m args below meth c D ca ad A Q k) Q := ⟨lb_180 hl0 hk C0 hE hr hno hX hbl hbA hL,
  lb_253 hl0 hk C0 hE hr hno hX hbl hbA hL,
  lb_289 hl0 hk C0 hE hr hno hX hbl hbA hL,
  lb_306 hl0 hk C0 hE hr hno hX hbl hbA hL,
  lb_309 hl0 hk C0 hE hr hno hX hbl hbA hL,
  lb_345 hl0 hk C0 hE hr hno hX hbl hbA hL,
  lb_362 hl0 hk C0 hE hr hno hX hbl hbA hL,
  lb_365 hl0 hk C0 hE hr hno hX hbl hbA hL,
  lb_378 hl0 hk C0 hE hr hno hX hbl hbA hL,
  lb_414 hl0 hk C0 hE hr hno hX hbl hbA hL,
  lb_431 hl0 hk C0 hE hr hno hX hbl hbA hL,
  lb_434 hl0 hk C0 hE hr hno hX hbl hbA hL,
  lb_482 hl0 hk C0 hE hr hno hX hbl hbA hL,
  lb_499 hl0 hk C0 hE hr hno hX hbl hbA hL,
  lb_502 hl0 hk C0 hE hr hno hX hbl hbA hL,
  lb_550 hl0 hk C0 hE hr hno hX hbl hbA hL,
  lb_567 hl0 hk C0 hE hr hno hX hbl hbA hL,
  lb_570 hl0 hk C0 hE hr hno hX hbl hbA hL,
  lb_618 hl0 hk C0 hE hr hno hX hbl hbA hL,
  lb_635 hl0 hk C0 hE hr hno hX hbl hbA hL,
  lb_638 hl0 hk C0 hE hr hno hX hbl hbA hL,
  lb_698 hl0 hk C0 hE hr hno hX hbl hbA hL,
  lb_715 hl0 hk C0 hE hr hno hX hbl hbA hL,
  lb_718 hl0 hk C0 hE hr hno hX hbl hbA hL,
  lb_754 hl0 hk C0 hE hr hno hX hbl hbA hL,
  lb_771 hl0 hk C0 hE hr hno hX hbl hbA hL,
  lb_774 hl0 hk C0 hE hr hno hX hbl hbA hL,
  lb_834 hl0 hk C0 hE hr hno hX hbl hbA hL,
  lb_851 hl0 hk C0 hE hr hno hX hbl hbA hL,
  lb_854 hl0 hk C0 hE hr hno hX hbl hbA hL,
  lb_890 hl0 hk C0 hE hr hno hX hbl hbA hL,
  lb_907 hl0 hk C0 hE hr hno hX hbl hbA hL,
  lb_910 hl0 hk C0 hE hr hno hX hbl hbA hL,
  lb_958 hl0 hk C0 hE hr hno hX hbl hbA hL,
  lb_975 hl0 hk C0 hE hr hno hX hbl hbA hL,
  lb_978 hl0 hk C0 hE hr hno hX hbl hbA hL,
  lb_1026 hl0 hk C0 hE hr hno hX hbl hbA hL,
  lb_1043 hl0 hk C0 hE hr hno hX hbl hbA hL,
  lb_1046 hl0 hk C0 hE hr hno hX hbl hbA hL,
  lb_1094 hl0 hk C0 hE hr hno hX hbl hbA hL,
  lb_1111 hl0 hk C0 hE hr hno hX hbl hbA hL,
  lb_1114 hl0 hk C0 hE hr hno hX hbl hbA hL,
  lb_1150 hl0 hk C0 hE hr hno hX hbl hbA hL,
  lb_1167 hl0 hk C0 hE hr hno hX hbl hbA hL,
  lb_1170 hl0 hk C0 hE hr hno hX hbl hbA hL,
  lb_1206 hl0 hk C0 hE hr hno hX hbl hbA hL,
  lb_1223 hl0 hk C0 hE hr hno hX hbl hbA hL,
  lb_1226 hl0 hk C0 hE hr hno hX hbl hbA hL,
  lb_1239 hl0 hk C0 hE hr hno hX hbl hbA hL,
  lb_1275 hl0 hk C0 hE hr hno hX hbl hbA hL,
  lb_1292 hl0 hk C0 hE hr hno hX hbl hbA hL,
  lb_1293 hl0 hk C0 hE hr hno hX hbl hbA hL,
  lb_1299 hl0 hk C0 hE hr hno hX hbl hbA hL,
  lb_1302 hl0 hk C0 hE hr hno hX hbl hbA hL,
  lb_1362 hl0 hk C0 hE hr hno hX hbl hbA hL,
  lb_1379 hl0 hk C0 hE hr hno hX hbl hbA hL,
  lb_1382 hl0 hk C0 hE hr hno hX hbl hbA hL,
  lb_1407 hl0 hk C0 hE hr hno hX hbl hbA hL,
  lb_1455 hl0 hk C0 hE hr hno hX hbl hbA hL,
  lb_1472 hl0 hk C0 hE hr hno hX hbl hbA hL,
  lb_1475 hl0 hk C0 hE hr hno hX hbl hbA hL,
  lb_1535 hl0 hk C0 hE hr hno hX hbl hbA hL,
  lb_1552 hl0 hk C0 hE hr hno hX hbl hbA hL,
  lb_1555 hl0 hk C0 hE hr hno hX hbl hbA hL,
  lb_1568 hl0 hk C0 hE hr hno hX hbl hbA hL,
  lb_1604 hl0 hk C0 hE hr hno hX hbl hbA hL,
  lb_1621 hl0 hk C0 hE hr hno hX hbl hbA hL,
  lb_1624 hl0 hk C0 hE hr hno hX hbl hbA hL,
  lb_1660 hl0 hk C0 hE hr hno hX hbl hbA hL,
  lb_1677 hl0 hk C0 hE hr hno hX hbl hbA hL,
  lb_1680 hl0 hk C0 hE hr hno hX hbl hbA hL,
  lb_1728 hl0 hk C0 hE hr hno hX hbl hbA hL,
  lb_1745 hl0 hk C0 hE hr hno hX hbl hbA hL,
  lb_1746 hl0 hk C0 hE hr hno hX hbl hbA hL,
  lb_1752 hl0 hk C0 hE hr hno hX hbl hbA hL,
  lb_1755 hl0 hk C0 hE hr hno hX hbl hbA hL,
  lb_1768 hl0 hk C0 hE hr hno hX hbl hbA hL,
  lb_1781 hl0 hk C0 hE hr hno hX hbl hbA hL,
  lb_1806 hl0 hk C0 hE hr hno hX hbl hbA hL,
  lb_1831 hl0 hk C0 hE hr hno hX hbl hbA hL,
  lb_1837 hl0 hk C0 hE hr hno hX hbl hbA hL⟩
