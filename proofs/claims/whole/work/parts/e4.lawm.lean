theorem d_L_law_618 : decode cL_law 618 = .ok (.iload 5, 2) := by decide +kernel
theorem d_L_law_620 : decode cL_law 620 = .ok (.ifCond .ne 15, 3) := by decide +kernel
theorem d_L_law_623 : decode cL_law 623 = .ok (.aload_n 3, 1) := by decide +kernel
theorem d_L_law_624 : decode cL_law 624 = .ok (.iconst 0, 1) := by decide +kernel
theorem d_L_law_625 : decode cL_law 625 = .ok (.laload, 1) := by decide +kernel
theorem d_L_law_626 : decode cL_law 626 = .ok (.iload 6, 2) := by decide +kernel
theorem d_L_law_628 : decode cL_law 628 = .ok (.i2l, 1) := by decide +kernel
theorem d_L_law_629 : decode cL_law 629 = .ok (.lcmp, 1) := by decide +kernel
theorem d_L_law_630 : decode cL_law 630 = .ok (.ifCond .eq 5, 3) := by decide +kernel
theorem d_L_law_633 : decode cL_law 633 = .ok (.iconst 0, 1) := by decide +kernel
theorem d_L_law_634 : decode cL_law 634 = .ok (.ireturn, 1) := by decide +kernel
set_option maxRecDepth 100000 in
theorem lb_618 {p : Program} {l : Launch} {e : Env} {s : State} {m : MethodId} {args : Array Value} {below : List Frame} {meth : Method} {c : Code} {D : va_G} {ca : Nat → ClassId} {ad sx sy : Nat → Nat} {A : Nat → Prop} {Q : QT} {b L k : Nat} {xs : Nat → Int32} (hl0 : l.stackTraces = false) (hk : k < 600) (C0 : CX p s m args meth c cL_law 7 yL_law.cls D ca ad A) (hE : EX sx sy A s s.heap) (hr : meth.sig.returnType = some .boolean) (hno : ∀ x ∈ c.exceptionTable.toList, False) (hX : va_X b L xs s s.heap) (hbl : b < s.heap.size) (hbA : ¬ A b) (hL : L < 2147483648) : ∀ ls st M, wpl (LJ p l e s m args below meth c D ca ad A Q k) Q (b_L_law_618 b L xs) ls st M → LJ p l e s m args below meth c D ca ad A Q k 618 ls st M := s_il C0 (d_L_law_618) (hgl rfl) (s_zne C0 (d_L_law_620) (by decide) (hgl rfl) (hgl rfl) (fun _ _ _ h => h) (s_aln C0 (d_L_law_623) (hgl rfl) (s_ic C0 (d_L_law_624) (hgl rfl) (s_la C0 (d_L_law_625) (hgl rfl) (s_il C0 (d_L_law_626) (hgl rfl) (s_i2l C0 (d_L_law_628) (hgl rfl) (s_lcmp C0 (d_L_law_629) (hgl rfl) (s_zeq C0 (d_L_law_630) (by decide) (hgl rfl) (hgl rfl) (fun _ _ _ h => h) (s_ic C0 (d_L_law_633) (hgl rfl) (s_rz C0 hr (d_L_law_634) (hfr hk)) (okn rfl))))))) (okn rfl))))
theorem d_L_law_635 : decode cL_law 635 = .ok (.goto 1196, 3) := by decide +kernel
set_option maxRecDepth 100000 in
theorem lb_635 {p : Program} {l : Launch} {e : Env} {s : State} {m : MethodId} {args : Array Value} {below : List Frame} {meth : Method} {c : Code} {D : va_G} {ca : Nat → ClassId} {ad sx sy : Nat → Nat} {A : Nat → Prop} {Q : QT} {b L k : Nat} {xs : Nat → Int32} (hl0 : l.stackTraces = false) (hk : k < 600) (C0 : CX p s m args meth c cL_law 7 yL_law.cls D ca ad A) (hE : EX sx sy A s s.heap) (hr : meth.sig.returnType = some .boolean) (hno : ∀ x ∈ c.exceptionTable.toList, False) (hX : va_X b L xs s s.heap) (hbl : b < s.heap.size) (hbA : ¬ A b) (hL : L < 2147483648) : ∀ ls st M, wpl (LJ p l e s m args below meth c D ca ad A Q k) Q (b_L_law_635 b L xs) ls st M → LJ p l e s m args below meth c D ca ad A Q k 635 ls st M := s_goto C0 (tgt := 1831) (d_L_law_635) (by decide) (hgl rfl) (fun _ _ _ h => h)
theorem wg1512 : Cond.code ⟨"WeighedHallModel", "pounds", "(III)I"⟩ prog_13_method_46_code 4 (Option.some .int) ∈ GT := gt_mem 1632 (by decide +kernel) rfl
theorem wg1509 : Cond.methodLink "WeighedHallLaw" 126 ⟨"WeighedHallModel", "pounds", "(III)I"⟩ ∈ GT := gt_mem 1629 (by decide +kernel) rfl
theorem wg1510 : Cond.instanceMethod ⟨"WeighedHallModel", "pounds", "(III)I"⟩ ∈ GT := gt_mem 1630 (by decide +kernel) rfl
theorem wg1511 : Cond.selects "WeighedHallModel" ⟨"WeighedHallModel", "pounds", "(III)I"⟩ ⟨"WeighedHallModel", "pounds", "(III)I"⟩ ∈ GT := gt_mem 1631 (by decide +kernel) rfl
theorem wg938 : Cond.codeWith ⟨"WeighedHallLaw", "pounds", "(LWeighedHall;III[J)I"⟩ method_9_code 6 (Option.some .int) [(0, 12, 15, 25), (0, 12, 19, 13)] ∈ GT := gt_mem 1058 (by decide +kernel) rfl
theorem wg936 : Cond.methodLink "WeighedHallLaw" 123 ⟨"WeighedHallLaw", "pounds", "(LWeighedHall;III[J)I"⟩ ∈ GT := gt_mem 1056 (by decide +kernel) rfl
theorem wg937 : Cond.static ⟨"WeighedHallLaw", "pounds", "(LWeighedHall;III[J)I"⟩ ∈ GT := gt_mem 1057 (by decide +kernel) rfl
theorem d_L_law_638 : decode cL_law 638 = .ok (.aload_n 1, 1) := by decide +kernel
theorem d_L_law_639 : decode cL_law 639 = .ok (.aload_n 0, 1) := by decide +kernel
theorem d_L_law_640 : decode cL_law 640 = .ok (.iload 4, 2) := by decide +kernel
theorem d_L_law_642 : decode cL_law 642 = .ok (.iconst 1, 1) := by decide +kernel
theorem d_L_law_643 : decode cL_law 643 = .ok (.iadd, 1) := by decide +kernel
theorem d_L_law_644 : decode cL_law 644 = .ok (.iaload, 1) := by decide +kernel
theorem d_L_law_645 : decode cL_law 645 = .ok (.aload_n 0, 1) := by decide +kernel
theorem d_L_law_646 : decode cL_law 646 = .ok (.iload 4, 2) := by decide +kernel
theorem d_L_law_648 : decode cL_law 648 = .ok (.iconst 2, 1) := by decide +kernel
theorem d_L_law_649 : decode cL_law 649 = .ok (.iadd, 1) := by decide +kernel
theorem d_L_law_650 : decode cL_law 650 = .ok (.iaload, 1) := by decide +kernel
theorem d_L_law_651 : decode cL_law 651 = .ok (.aload_n 0, 1) := by decide +kernel
theorem d_L_law_652 : decode cL_law 652 = .ok (.iload 4, 2) := by decide +kernel
theorem d_L_law_654 : decode cL_law 654 = .ok (.iconst 3, 1) := by decide +kernel
theorem d_L_law_655 : decode cL_law 655 = .ok (.iadd, 1) := by decide +kernel
theorem d_L_law_656 : decode cL_law 656 = .ok (.iaload, 1) := by decide +kernel
theorem d_L_law_657 : decode cL_law 657 = .ok (.aload_n 3, 1) := by decide +kernel
theorem d_L_law_658 : decode cL_law 658 = .ok (.invokestatic 123, 3) := by decide +kernel
theorem d_L_law_661 : decode cL_law 661 = .ok (.istore 5, 2) := by decide +kernel
theorem d_L_law_663 : decode cL_law 663 = .ok (.aload_n 2, 1) := by decide +kernel
theorem d_L_law_664 : decode cL_law 664 = .ok (.aload_n 0, 1) := by decide +kernel
theorem d_L_law_665 : decode cL_law 665 = .ok (.iload 4, 2) := by decide +kernel
theorem d_L_law_667 : decode cL_law 667 = .ok (.iconst 1, 1) := by decide +kernel
theorem d_L_law_668 : decode cL_law 668 = .ok (.iadd, 1) := by decide +kernel
theorem d_L_law_669 : decode cL_law 669 = .ok (.iaload, 1) := by decide +kernel
theorem d_L_law_670 : decode cL_law 670 = .ok (.aload_n 0, 1) := by decide +kernel
theorem d_L_law_671 : decode cL_law 671 = .ok (.iload 4, 2) := by decide +kernel
theorem d_L_law_673 : decode cL_law 673 = .ok (.iconst 2, 1) := by decide +kernel
theorem d_L_law_674 : decode cL_law 674 = .ok (.iadd, 1) := by decide +kernel
theorem d_L_law_675 : decode cL_law 675 = .ok (.iaload, 1) := by decide +kernel
theorem d_L_law_676 : decode cL_law 676 = .ok (.aload_n 0, 1) := by decide +kernel
theorem d_L_law_677 : decode cL_law 677 = .ok (.iload 4, 2) := by decide +kernel
theorem d_L_law_679 : decode cL_law 679 = .ok (.iconst 3, 1) := by decide +kernel
theorem d_L_law_680 : decode cL_law 680 = .ok (.iadd, 1) := by decide +kernel
theorem d_L_law_681 : decode cL_law 681 = .ok (.iaload, 1) := by decide +kernel
theorem d_L_law_682 : decode cL_law 682 = .ok (.invokevirtual 126, 3) := by decide +kernel
theorem d_L_law_685 : decode cL_law 685 = .ok (.istore 6, 2) := by decide +kernel
theorem d_L_law_687 : decode cL_law 687 = .ok (.aload_n 2, 1) := by decide +kernel
theorem d_L_law_688 : decode cL_law 688 = .ok (.invokevirtual 99, 3) := by decide +kernel
theorem d_L_law_691 : decode cL_law 691 = .ok (.iload 5, 2) := by decide +kernel
theorem d_L_law_693 : decode cL_law 693 = .ok (.if_icmp .eq 5, 3) := by decide +kernel
theorem d_L_law_696 : decode cL_law 696 = .ok (.iconst 0, 1) := by decide +kernel
theorem d_L_law_697 : decode cL_law 697 = .ok (.ireturn, 1) := by decide +kernel
set_option maxRecDepth 100000 in
theorem lb_638 {p : Program} {l : Launch} {e : Env} {s : State} {m : MethodId} {args : Array Value} {below : List Frame} {meth : Method} {c : Code} {D : va_G} {ca : Nat → ClassId} {ad sx sy : Nat → Nat} {A : Nat → Prop} {Q : QT} {b L k : Nat} {xs : Nat → Int32} (hl0 : l.stackTraces = false) (hk : k < 600) (C0 : CX p s m args meth c cL_law 7 yL_law.cls D ca ad A) (hE : EX sx sy A s s.heap) (hr : meth.sig.returnType = some .boolean) (hno : ∀ x ∈ c.exceptionTable.toList, False) (hX : va_X b L xs s s.heap) (hbl : b < s.heap.size) (hbA : ¬ A b) (hL : L < 2147483648) : ∀ ls st M, wpl (LJ p l e s m args below meth c D ca ad A Q k) Q (b_L_law_638 b L xs) ls st M → LJ p l e s m args below meth c D ca ad A Q k 638 ls st M := s_aln C0 (d_L_law_638) (hgl rfl) (s_aln C0 (d_L_law_639) (hgl rfl) (s_il C0 (d_L_law_640) (hgl rfl) (s_ic C0 (d_L_law_642) (hgl rfl) (s_add C0 (d_L_law_643) (hgl rfl) (s_scr C0 hX hbl hbA (d_L_law_644) (hgl rfl) (s_aln C0 (d_L_law_645) (hgl rfl) (s_il C0 (d_L_law_646) (hgl rfl) (s_ic C0 (d_L_law_648) (hgl rfl) (s_add C0 (d_L_law_649) (hgl rfl) (s_scr C0 hX hbl hbA (d_L_law_650) (hgl rfl) (s_aln C0 (d_L_law_651) (hgl rfl) (s_il C0 (d_L_law_652) (hgl rfl) (s_ic C0 (d_L_law_654) (hgl rfl) (s_add C0 (d_L_law_655) (hgl rfl) (s_scr C0 hX hbl hbA (d_L_law_656) (hgl rfl) (s_aln C0 (d_L_law_657) (hgl rfl) (s_callSH C0 hE (c_L_pounds l hl0) wg938 wg936 wg937 wg0 ⟨by decide, by decide⟩ (by decide +kernel) ⟨by decide, by decide⟩ (hfl hk rfl) (d_L_law_658) (fun x hx => (hno x hx).elim) (hgc rfl rfl rfl) (hfl hk rfl) (s_is C0 (d_L_law_661) (hgl rfl) (s_aln C0 (d_L_law_663) (hgl rfl) (s_aln C0 (d_L_law_664) (hgl rfl) (s_il C0 (d_L_law_665) (hgl rfl) (s_ic C0 (d_L_law_667) (hgl rfl) (s_add C0 (d_L_law_668) (hgl rfl) (s_scr C0 hX hbl hbA (d_L_law_669) (hgl rfl) (s_aln C0 (d_L_law_670) (hgl rfl) (s_il C0 (d_L_law_671) (hgl rfl) (s_ic C0 (d_L_law_673) (hgl rfl) (s_add C0 (d_L_law_674) (hgl rfl) (s_scr C0 hX hbl hbA (d_L_law_675) (hgl rfl) (s_aln C0 (d_L_law_676) (hgl rfl) (s_il C0 (d_L_law_677) (hgl rfl) (s_ic C0 (d_L_law_679) (hgl rfl) (s_add C0 (d_L_law_680) (hgl rfl) (s_scr C0 hX hbl hbA (d_L_law_681) (hgl rfl) (s_callV C0 hE (c_X11_pounds l) wg1512 wg1509 wg1510 wg1511 wg12 ⟨by decide, by decide⟩ (by decide +kernel) (c0 := 11) rfl ⟨by decide, by decide⟩ (hfl hk rfl) (d_L_law_682) (fun x hx => (hno x hx).elim) (hgc0 rfl) (hfl hk rfl) (s_is C0 (d_L_law_685) (hgl rfl) (s_aln C0 (d_L_law_687) (hgl rfl) (s_callV C0 hE (c_X11_thrown l) wg1344 wg1341 wg1342 wg1343 wg12 ⟨by decide, by decide⟩ (by decide +kernel) (c0 := 11) rfl ⟨by decide, by decide⟩ (hfl hk rfl) (d_L_law_688) (fun x hx => (hno x hx).elim) (hgc0 rfl) (hfl hk rfl) (s_il C0 (d_L_law_691) (hgl rfl) (s_ceq C0 (d_L_law_693) (by decide) (hgl rfl) (hgl rfl) (fun _ _ _ h => h) (s_ic C0 (d_L_law_696) (hgl rfl) (s_rz C0 hr (d_L_law_697) (hfr hk)) (okn rfl)))))))))) (okn rfl)))))) (okn rfl)))))) (okn rfl)))))))))) (okn rfl)))))) (okn rfl)))))) (okn rfl))))
theorem d_L_law_698 : decode cL_law 698 = .ok (.iload 5, 2) := by decide +kernel
theorem d_L_law_700 : decode cL_law 700 = .ok (.ifCond .ne 15, 3) := by decide +kernel
theorem d_L_law_703 : decode cL_law 703 = .ok (.aload_n 3, 1) := by decide +kernel
theorem d_L_law_704 : decode cL_law 704 = .ok (.iconst 0, 1) := by decide +kernel
theorem d_L_law_705 : decode cL_law 705 = .ok (.laload, 1) := by decide +kernel
theorem d_L_law_706 : decode cL_law 706 = .ok (.iload 6, 2) := by decide +kernel
theorem d_L_law_708 : decode cL_law 708 = .ok (.i2l, 1) := by decide +kernel
theorem d_L_law_709 : decode cL_law 709 = .ok (.lcmp, 1) := by decide +kernel
theorem d_L_law_710 : decode cL_law 710 = .ok (.ifCond .eq 5, 3) := by decide +kernel
theorem d_L_law_713 : decode cL_law 713 = .ok (.iconst 0, 1) := by decide +kernel
theorem d_L_law_714 : decode cL_law 714 = .ok (.ireturn, 1) := by decide +kernel
set_option maxRecDepth 100000 in
theorem lb_698 {p : Program} {l : Launch} {e : Env} {s : State} {m : MethodId} {args : Array Value} {below : List Frame} {meth : Method} {c : Code} {D : va_G} {ca : Nat → ClassId} {ad sx sy : Nat → Nat} {A : Nat → Prop} {Q : QT} {b L k : Nat} {xs : Nat → Int32} (hl0 : l.stackTraces = false) (hk : k < 600) (C0 : CX p s m args meth c cL_law 7 yL_law.cls D ca ad A) (hE : EX sx sy A s s.heap) (hr : meth.sig.returnType = some .boolean) (hno : ∀ x ∈ c.exceptionTable.toList, False) (hX : va_X b L xs s s.heap) (hbl : b < s.heap.size) (hbA : ¬ A b) (hL : L < 2147483648) : ∀ ls st M, wpl (LJ p l e s m args below meth c D ca ad A Q k) Q (b_L_law_698 b L xs) ls st M → LJ p l e s m args below meth c D ca ad A Q k 698 ls st M := s_il C0 (d_L_law_698) (hgl rfl) (s_zne C0 (d_L_law_700) (by decide) (hgl rfl) (hgl rfl) (fun _ _ _ h => h) (s_aln C0 (d_L_law_703) (hgl rfl) (s_ic C0 (d_L_law_704) (hgl rfl) (s_la C0 (d_L_law_705) (hgl rfl) (s_il C0 (d_L_law_706) (hgl rfl) (s_i2l C0 (d_L_law_708) (hgl rfl) (s_lcmp C0 (d_L_law_709) (hgl rfl) (s_zeq C0 (d_L_law_710) (by decide) (hgl rfl) (hgl rfl) (fun _ _ _ h => h) (s_ic C0 (d_L_law_713) (hgl rfl) (s_rz C0 hr (d_L_law_714) (hfr hk)) (okn rfl))))))) (okn rfl))))
theorem d_L_law_715 : decode cL_law 715 = .ok (.goto 1116, 3) := by decide +kernel
set_option maxRecDepth 100000 in
theorem lb_715 {p : Program} {l : Launch} {e : Env} {s : State} {m : MethodId} {args : Array Value} {below : List Frame} {meth : Method} {c : Code} {D : va_G} {ca : Nat → ClassId} {ad sx sy : Nat → Nat} {A : Nat → Prop} {Q : QT} {b L k : Nat} {xs : Nat → Int32} (hl0 : l.stackTraces = false) (hk : k < 600) (C0 : CX p s m args meth c cL_law 7 yL_law.cls D ca ad A) (hE : EX sx sy A s s.heap) (hr : meth.sig.returnType = some .boolean) (hno : ∀ x ∈ c.exceptionTable.toList, False) (hX : va_X b L xs s s.heap) (hbl : b < s.heap.size) (hbA : ¬ A b) (hL : L < 2147483648) : ∀ ls st M, wpl (LJ p l e s m args below meth c D ca ad A Q k) Q (b_L_law_715 b L xs) ls st M → LJ p l e s m args below meth c D ca ad A Q k 715 ls st M := s_goto C0 (tgt := 1831) (d_L_law_715) (by decide) (hgl rfl) (fun _ _ _ h => h)
theorem wg1516 : Cond.code ⟨"WeighedHallModel", "spent", "(I)I"⟩ prog_13_method_47_code 2 (Option.some .int) ∈ GT := gt_mem 1636 (by decide +kernel) rfl
theorem wg1513 : Cond.methodLink "WeighedHallLaw" 129 ⟨"WeighedHallModel", "spent", "(I)I"⟩ ∈ GT := gt_mem 1633 (by decide +kernel) rfl
theorem wg1514 : Cond.instanceMethod ⟨"WeighedHallModel", "spent", "(I)I"⟩ ∈ GT := gt_mem 1634 (by decide +kernel) rfl
theorem wg1515 : Cond.selects "WeighedHallModel" ⟨"WeighedHallModel", "spent", "(I)I"⟩ ⟨"WeighedHallModel", "spent", "(I)I"⟩ ∈ GT := gt_mem 1635 (by decide +kernel) rfl
theorem wg954 : Cond.codeWith ⟨"WeighedHallLaw", "spent", "(LWeighedHall;I[J)I"⟩ method_10_code 4 (Option.some .int) [(0, 9, 12, 25)] ∈ GT := gt_mem 1074 (by decide +kernel) rfl
theorem wg952 : Cond.methodLink "WeighedHallLaw" 127 ⟨"WeighedHallLaw", "spent", "(LWeighedHall;I[J)I"⟩ ∈ GT := gt_mem 1072 (by decide +kernel) rfl
theorem wg953 : Cond.static ⟨"WeighedHallLaw", "spent", "(LWeighedHall;I[J)I"⟩ ∈ GT := gt_mem 1073 (by decide +kernel) rfl
theorem d_L_law_718 : decode cL_law 718 = .ok (.aload_n 1, 1) := by decide +kernel
theorem d_L_law_719 : decode cL_law 719 = .ok (.aload_n 0, 1) := by decide +kernel
theorem d_L_law_720 : decode cL_law 720 = .ok (.iload 4, 2) := by decide +kernel
theorem d_L_law_722 : decode cL_law 722 = .ok (.iconst 1, 1) := by decide +kernel
theorem d_L_law_723 : decode cL_law 723 = .ok (.iadd, 1) := by decide +kernel
theorem d_L_law_724 : decode cL_law 724 = .ok (.iaload, 1) := by decide +kernel
theorem d_L_law_725 : decode cL_law 725 = .ok (.aload_n 3, 1) := by decide +kernel
theorem d_L_law_726 : decode cL_law 726 = .ok (.invokestatic 127, 3) := by decide +kernel
theorem d_L_law_729 : decode cL_law 729 = .ok (.istore 5, 2) := by decide +kernel
theorem d_L_law_731 : decode cL_law 731 = .ok (.aload_n 2, 1) := by decide +kernel
theorem d_L_law_732 : decode cL_law 732 = .ok (.aload_n 0, 1) := by decide +kernel
theorem d_L_law_733 : decode cL_law 733 = .ok (.iload 4, 2) := by decide +kernel
theorem d_L_law_735 : decode cL_law 735 = .ok (.iconst 1, 1) := by decide +kernel
theorem d_L_law_736 : decode cL_law 736 = .ok (.iadd, 1) := by decide +kernel
theorem d_L_law_737 : decode cL_law 737 = .ok (.iaload, 1) := by decide +kernel
theorem d_L_law_738 : decode cL_law 738 = .ok (.invokevirtual 129, 3) := by decide +kernel
theorem d_L_law_741 : decode cL_law 741 = .ok (.istore 6, 2) := by decide +kernel
theorem d_L_law_743 : decode cL_law 743 = .ok (.aload_n 2, 1) := by decide +kernel
theorem d_L_law_744 : decode cL_law 744 = .ok (.invokevirtual 99, 3) := by decide +kernel
theorem d_L_law_747 : decode cL_law 747 = .ok (.iload 5, 2) := by decide +kernel
theorem d_L_law_749 : decode cL_law 749 = .ok (.if_icmp .eq 5, 3) := by decide +kernel
theorem d_L_law_752 : decode cL_law 752 = .ok (.iconst 0, 1) := by decide +kernel
theorem d_L_law_753 : decode cL_law 753 = .ok (.ireturn, 1) := by decide +kernel
set_option maxRecDepth 100000 in
theorem lb_718 {p : Program} {l : Launch} {e : Env} {s : State} {m : MethodId} {args : Array Value} {below : List Frame} {meth : Method} {c : Code} {D : va_G} {ca : Nat → ClassId} {ad sx sy : Nat → Nat} {A : Nat → Prop} {Q : QT} {b L k : Nat} {xs : Nat → Int32} (hl0 : l.stackTraces = false) (hk : k < 600) (C0 : CX p s m args meth c cL_law 7 yL_law.cls D ca ad A) (hE : EX sx sy A s s.heap) (hr : meth.sig.returnType = some .boolean) (hno : ∀ x ∈ c.exceptionTable.toList, False) (hX : va_X b L xs s s.heap) (hbl : b < s.heap.size) (hbA : ¬ A b) (hL : L < 2147483648) : ∀ ls st M, wpl (LJ p l e s m args below meth c D ca ad A Q k) Q (b_L_law_718 b L xs) ls st M → LJ p l e s m args below meth c D ca ad A Q k 718 ls st M := s_aln C0 (d_L_law_718) (hgl rfl) (s_aln C0 (d_L_law_719) (hgl rfl) (s_il C0 (d_L_law_720) (hgl rfl) (s_ic C0 (d_L_law_722) (hgl rfl) (s_add C0 (d_L_law_723) (hgl rfl) (s_scr C0 hX hbl hbA (d_L_law_724) (hgl rfl) (s_aln C0 (d_L_law_725) (hgl rfl) (s_callSH C0 hE (c_L_spent l hl0) wg954 wg952 wg953 wg0 ⟨by decide, by decide⟩ (by decide +kernel) ⟨by decide, by decide⟩ (hfl hk rfl) (d_L_law_726) (fun x hx => (hno x hx).elim) (hgc rfl rfl rfl) (hfl hk rfl) (s_is C0 (d_L_law_729) (hgl rfl) (s_aln C0 (d_L_law_731) (hgl rfl) (s_aln C0 (d_L_law_732) (hgl rfl) (s_il C0 (d_L_law_733) (hgl rfl) (s_ic C0 (d_L_law_735) (hgl rfl) (s_add C0 (d_L_law_736) (hgl rfl) (s_scr C0 hX hbl hbA (d_L_law_737) (hgl rfl) (s_callV C0 hE (c_X11_spent l) wg1516 wg1513 wg1514 wg1515 wg12 ⟨by decide, by decide⟩ (by decide +kernel) (c0 := 11) rfl ⟨by decide, by decide⟩ (hfl hk rfl) (d_L_law_738) (fun x hx => (hno x hx).elim) (hgc0 rfl) (hfl hk rfl) (s_is C0 (d_L_law_741) (hgl rfl) (s_aln C0 (d_L_law_743) (hgl rfl) (s_callV C0 hE (c_X11_thrown l) wg1344 wg1341 wg1342 wg1343 wg12 ⟨by decide, by decide⟩ (by decide +kernel) (c0 := 11) rfl ⟨by decide, by decide⟩ (hfl hk rfl) (d_L_law_744) (fun x hx => (hno x hx).elim) (hgc0 rfl) (hfl hk rfl) (s_il C0 (d_L_law_747) (hgl rfl) (s_ceq C0 (d_L_law_749) (by decide) (hgl rfl) (hgl rfl) (fun _ _ _ h => h) (s_ic C0 (d_L_law_752) (hgl rfl) (s_rz C0 hr (d_L_law_753) (hfr hk)) (okn rfl)))))))))) (okn rfl)))))))))) (okn rfl))))
theorem d_L_law_754 : decode cL_law 754 = .ok (.iload 5, 2) := by decide +kernel
theorem d_L_law_756 : decode cL_law 756 = .ok (.ifCond .ne 15, 3) := by decide +kernel
theorem d_L_law_759 : decode cL_law 759 = .ok (.aload_n 3, 1) := by decide +kernel
theorem d_L_law_760 : decode cL_law 760 = .ok (.iconst 0, 1) := by decide +kernel
theorem d_L_law_761 : decode cL_law 761 = .ok (.laload, 1) := by decide +kernel
theorem d_L_law_762 : decode cL_law 762 = .ok (.iload 6, 2) := by decide +kernel
theorem d_L_law_764 : decode cL_law 764 = .ok (.i2l, 1) := by decide +kernel
theorem d_L_law_765 : decode cL_law 765 = .ok (.lcmp, 1) := by decide +kernel
theorem d_L_law_766 : decode cL_law 766 = .ok (.ifCond .eq 5, 3) := by decide +kernel
theorem d_L_law_769 : decode cL_law 769 = .ok (.iconst 0, 1) := by decide +kernel
theorem d_L_law_770 : decode cL_law 770 = .ok (.ireturn, 1) := by decide +kernel
set_option maxRecDepth 100000 in
theorem lb_754 {p : Program} {l : Launch} {e : Env} {s : State} {m : MethodId} {args : Array Value} {below : List Frame} {meth : Method} {c : Code} {D : va_G} {ca : Nat → ClassId} {ad sx sy : Nat → Nat} {A : Nat → Prop} {Q : QT} {b L k : Nat} {xs : Nat → Int32} (hl0 : l.stackTraces = false) (hk : k < 600) (C0 : CX p s m args meth c cL_law 7 yL_law.cls D ca ad A) (hE : EX sx sy A s s.heap) (hr : meth.sig.returnType = some .boolean) (hno : ∀ x ∈ c.exceptionTable.toList, False) (hX : va_X b L xs s s.heap) (hbl : b < s.heap.size) (hbA : ¬ A b) (hL : L < 2147483648) : ∀ ls st M, wpl (LJ p l e s m args below meth c D ca ad A Q k) Q (b_L_law_754 b L xs) ls st M → LJ p l e s m args below meth c D ca ad A Q k 754 ls st M := s_il C0 (d_L_law_754) (hgl rfl) (s_zne C0 (d_L_law_756) (by decide) (hgl rfl) (hgl rfl) (fun _ _ _ h => h) (s_aln C0 (d_L_law_759) (hgl rfl) (s_ic C0 (d_L_law_760) (hgl rfl) (s_la C0 (d_L_law_761) (hgl rfl) (s_il C0 (d_L_law_762) (hgl rfl) (s_i2l C0 (d_L_law_764) (hgl rfl) (s_lcmp C0 (d_L_law_765) (hgl rfl) (s_zeq C0 (d_L_law_766) (by decide) (hgl rfl) (hgl rfl) (fun _ _ _ h => h) (s_ic C0 (d_L_law_769) (hgl rfl) (s_rz C0 hr (d_L_law_770) (hfr hk)) (okn rfl))))))) (okn rfl))))
theorem d_L_law_771 : decode cL_law 771 = .ok (.goto 1060, 3) := by decide +kernel
set_option maxRecDepth 100000 in
theorem lb_771 {p : Program} {l : Launch} {e : Env} {s : State} {m : MethodId} {args : Array Value} {below : List Frame} {meth : Method} {c : Code} {D : va_G} {ca : Nat → ClassId} {ad sx sy : Nat → Nat} {A : Nat → Prop} {Q : QT} {b L k : Nat} {xs : Nat → Int32} (hl0 : l.stackTraces = false) (hk : k < 600) (C0 : CX p s m args meth c cL_law 7 yL_law.cls D ca ad A) (hE : EX sx sy A s s.heap) (hr : meth.sig.returnType = some .boolean) (hno : ∀ x ∈ c.exceptionTable.toList, False) (hX : va_X b L xs s s.heap) (hbl : b < s.heap.size) (hbA : ¬ A b) (hL : L < 2147483648) : ∀ ls st M, wpl (LJ p l e s m args below meth c D ca ad A Q k) Q (b_L_law_771 b L xs) ls st M → LJ p l e s m args below meth c D ca ad A Q k 771 ls st M := s_goto C0 (tgt := 1831) (d_L_law_771) (by decide) (hgl rfl) (fun _ _ _ h => h)
theorem wg1524 : Cond.code ⟨"WeighedHallModel", "motion", "(III)I"⟩ prog_13_method_50_code 4 (Option.some .int) ∈ GT := gt_mem 1644 (by decide +kernel) rfl
theorem wg1521 : Cond.methodLink "WeighedHallLaw" 132 ⟨"WeighedHallModel", "motion", "(III)I"⟩ ∈ GT := gt_mem 1641 (by decide +kernel) rfl
theorem wg1522 : Cond.instanceMethod ⟨"WeighedHallModel", "motion", "(III)I"⟩ ∈ GT := gt_mem 1642 (by decide +kernel) rfl
theorem wg1523 : Cond.selects "WeighedHallModel" ⟨"WeighedHallModel", "motion", "(III)I"⟩ ⟨"WeighedHallModel", "motion", "(III)I"⟩ ∈ GT := gt_mem 1643 (by decide +kernel) rfl
theorem wg961 : Cond.codeWith ⟨"WeighedHallLaw", "motion", "(LWeighedHall;III[J)I"⟩ method_11_code 6 (Option.some .int) [(0, 12, 15, 25), (0, 12, 19, 13)] ∈ GT := gt_mem 1081 (by decide +kernel) rfl
theorem wg959 : Cond.methodLink "WeighedHallLaw" 130 ⟨"WeighedHallLaw", "motion", "(LWeighedHall;III[J)I"⟩ ∈ GT := gt_mem 1079 (by decide +kernel) rfl
theorem wg960 : Cond.static ⟨"WeighedHallLaw", "motion", "(LWeighedHall;III[J)I"⟩ ∈ GT := gt_mem 1080 (by decide +kernel) rfl
theorem d_L_law_774 : decode cL_law 774 = .ok (.aload_n 1, 1) := by decide +kernel
theorem d_L_law_775 : decode cL_law 775 = .ok (.aload_n 0, 1) := by decide +kernel
theorem d_L_law_776 : decode cL_law 776 = .ok (.iload 4, 2) := by decide +kernel
theorem d_L_law_778 : decode cL_law 778 = .ok (.iconst 1, 1) := by decide +kernel
theorem d_L_law_779 : decode cL_law 779 = .ok (.iadd, 1) := by decide +kernel
theorem d_L_law_780 : decode cL_law 780 = .ok (.iaload, 1) := by decide +kernel
theorem d_L_law_781 : decode cL_law 781 = .ok (.aload_n 0, 1) := by decide +kernel
theorem d_L_law_782 : decode cL_law 782 = .ok (.iload 4, 2) := by decide +kernel
theorem d_L_law_784 : decode cL_law 784 = .ok (.iconst 2, 1) := by decide +kernel
theorem d_L_law_785 : decode cL_law 785 = .ok (.iadd, 1) := by decide +kernel
theorem d_L_law_786 : decode cL_law 786 = .ok (.iaload, 1) := by decide +kernel
theorem d_L_law_787 : decode cL_law 787 = .ok (.aload_n 0, 1) := by decide +kernel
theorem d_L_law_788 : decode cL_law 788 = .ok (.iload 4, 2) := by decide +kernel
theorem d_L_law_790 : decode cL_law 790 = .ok (.iconst 3, 1) := by decide +kernel
theorem d_L_law_791 : decode cL_law 791 = .ok (.iadd, 1) := by decide +kernel
theorem d_L_law_792 : decode cL_law 792 = .ok (.iaload, 1) := by decide +kernel
theorem d_L_law_793 : decode cL_law 793 = .ok (.aload_n 3, 1) := by decide +kernel
theorem d_L_law_794 : decode cL_law 794 = .ok (.invokestatic 130, 3) := by decide +kernel
theorem d_L_law_797 : decode cL_law 797 = .ok (.istore 5, 2) := by decide +kernel
theorem d_L_law_799 : decode cL_law 799 = .ok (.aload_n 2, 1) := by decide +kernel
theorem d_L_law_800 : decode cL_law 800 = .ok (.aload_n 0, 1) := by decide +kernel
theorem d_L_law_801 : decode cL_law 801 = .ok (.iload 4, 2) := by decide +kernel
theorem d_L_law_803 : decode cL_law 803 = .ok (.iconst 1, 1) := by decide +kernel
theorem d_L_law_804 : decode cL_law 804 = .ok (.iadd, 1) := by decide +kernel
theorem d_L_law_805 : decode cL_law 805 = .ok (.iaload, 1) := by decide +kernel
theorem d_L_law_806 : decode cL_law 806 = .ok (.aload_n 0, 1) := by decide +kernel
theorem d_L_law_807 : decode cL_law 807 = .ok (.iload 4, 2) := by decide +kernel
theorem d_L_law_809 : decode cL_law 809 = .ok (.iconst 2, 1) := by decide +kernel
theorem d_L_law_810 : decode cL_law 810 = .ok (.iadd, 1) := by decide +kernel
theorem d_L_law_811 : decode cL_law 811 = .ok (.iaload, 1) := by decide +kernel
theorem d_L_law_812 : decode cL_law 812 = .ok (.aload_n 0, 1) := by decide +kernel
theorem d_L_law_813 : decode cL_law 813 = .ok (.iload 4, 2) := by decide +kernel
theorem d_L_law_815 : decode cL_law 815 = .ok (.iconst 3, 1) := by decide +kernel
theorem d_L_law_816 : decode cL_law 816 = .ok (.iadd, 1) := by decide +kernel
theorem d_L_law_817 : decode cL_law 817 = .ok (.iaload, 1) := by decide +kernel
theorem d_L_law_818 : decode cL_law 818 = .ok (.invokevirtual 132, 3) := by decide +kernel
theorem d_L_law_821 : decode cL_law 821 = .ok (.istore 6, 2) := by decide +kernel
theorem d_L_law_823 : decode cL_law 823 = .ok (.aload_n 2, 1) := by decide +kernel
theorem d_L_law_824 : decode cL_law 824 = .ok (.invokevirtual 99, 3) := by decide +kernel
theorem d_L_law_827 : decode cL_law 827 = .ok (.iload 5, 2) := by decide +kernel
theorem d_L_law_829 : decode cL_law 829 = .ok (.if_icmp .eq 5, 3) := by decide +kernel
theorem d_L_law_832 : decode cL_law 832 = .ok (.iconst 0, 1) := by decide +kernel
theorem d_L_law_833 : decode cL_law 833 = .ok (.ireturn, 1) := by decide +kernel
set_option maxRecDepth 100000 in
theorem lb_774 {p : Program} {l : Launch} {e : Env} {s : State} {m : MethodId} {args : Array Value} {below : List Frame} {meth : Method} {c : Code} {D : va_G} {ca : Nat → ClassId} {ad sx sy : Nat → Nat} {A : Nat → Prop} {Q : QT} {b L k : Nat} {xs : Nat → Int32} (hl0 : l.stackTraces = false) (hk : k < 600) (C0 : CX p s m args meth c cL_law 7 yL_law.cls D ca ad A) (hE : EX sx sy A s s.heap) (hr : meth.sig.returnType = some .boolean) (hno : ∀ x ∈ c.exceptionTable.toList, False) (hX : va_X b L xs s s.heap) (hbl : b < s.heap.size) (hbA : ¬ A b) (hL : L < 2147483648) : ∀ ls st M, wpl (LJ p l e s m args below meth c D ca ad A Q k) Q (b_L_law_774 b L xs) ls st M → LJ p l e s m args below meth c D ca ad A Q k 774 ls st M := s_aln C0 (d_L_law_774) (hgl rfl) (s_aln C0 (d_L_law_775) (hgl rfl) (s_il C0 (d_L_law_776) (hgl rfl) (s_ic C0 (d_L_law_778) (hgl rfl) (s_add C0 (d_L_law_779) (hgl rfl) (s_scr C0 hX hbl hbA (d_L_law_780) (hgl rfl) (s_aln C0 (d_L_law_781) (hgl rfl) (s_il C0 (d_L_law_782) (hgl rfl) (s_ic C0 (d_L_law_784) (hgl rfl) (s_add C0 (d_L_law_785) (hgl rfl) (s_scr C0 hX hbl hbA (d_L_law_786) (hgl rfl) (s_aln C0 (d_L_law_787) (hgl rfl) (s_il C0 (d_L_law_788) (hgl rfl) (s_ic C0 (d_L_law_790) (hgl rfl) (s_add C0 (d_L_law_791) (hgl rfl) (s_scr C0 hX hbl hbA (d_L_law_792) (hgl rfl) (s_aln C0 (d_L_law_793) (hgl rfl) (s_callSH C0 hE (c_L_motion l hl0) wg961 wg959 wg960 wg0 ⟨by decide, by decide⟩ (by decide +kernel) ⟨by decide, by decide⟩ (hfl hk rfl) (d_L_law_794) (fun x hx => (hno x hx).elim) (hgc rfl rfl rfl) (hfl hk rfl) (s_is C0 (d_L_law_797) (hgl rfl) (s_aln C0 (d_L_law_799) (hgl rfl) (s_aln C0 (d_L_law_800) (hgl rfl) (s_il C0 (d_L_law_801) (hgl rfl) (s_ic C0 (d_L_law_803) (hgl rfl) (s_add C0 (d_L_law_804) (hgl rfl) (s_scr C0 hX hbl hbA (d_L_law_805) (hgl rfl) (s_aln C0 (d_L_law_806) (hgl rfl) (s_il C0 (d_L_law_807) (hgl rfl) (s_ic C0 (d_L_law_809) (hgl rfl) (s_add C0 (d_L_law_810) (hgl rfl) (s_scr C0 hX hbl hbA (d_L_law_811) (hgl rfl) (s_aln C0 (d_L_law_812) (hgl rfl) (s_il C0 (d_L_law_813) (hgl rfl) (s_ic C0 (d_L_law_815) (hgl rfl) (s_add C0 (d_L_law_816) (hgl rfl) (s_scr C0 hX hbl hbA (d_L_law_817) (hgl rfl) (s_callV C0 hE (c_X11_motion l) wg1524 wg1521 wg1522 wg1523 wg12 ⟨by decide, by decide⟩ (by decide +kernel) (c0 := 11) rfl ⟨by decide, by decide⟩ (hfl hk rfl) (d_L_law_818) (fun x hx => (hno x hx).elim) (hgc0 rfl) (hfl hk rfl) (s_is C0 (d_L_law_821) (hgl rfl) (s_aln C0 (d_L_law_823) (hgl rfl) (s_callV C0 hE (c_X11_thrown l) wg1344 wg1341 wg1342 wg1343 wg12 ⟨by decide, by decide⟩ (by decide +kernel) (c0 := 11) rfl ⟨by decide, by decide⟩ (hfl hk rfl) (d_L_law_824) (fun x hx => (hno x hx).elim) (hgc0 rfl) (hfl hk rfl) (s_il C0 (d_L_law_827) (hgl rfl) (s_ceq C0 (d_L_law_829) (by decide) (hgl rfl) (hgl rfl) (fun _ _ _ h => h) (s_ic C0 (d_L_law_832) (hgl rfl) (s_rz C0 hr (d_L_law_833) (hfr hk)) (okn rfl)))))))))) (okn rfl)))))) (okn rfl)))))) (okn rfl)))))))))) (okn rfl)))))) (okn rfl)))))) (okn rfl))))
theorem d_L_law_834 : decode cL_law 834 = .ok (.iload 5, 2) := by decide +kernel
theorem d_L_law_836 : decode cL_law 836 = .ok (.ifCond .ne 15, 3) := by decide +kernel
theorem d_L_law_839 : decode cL_law 839 = .ok (.aload_n 3, 1) := by decide +kernel
theorem d_L_law_840 : decode cL_law 840 = .ok (.iconst 0, 1) := by decide +kernel
theorem d_L_law_841 : decode cL_law 841 = .ok (.laload, 1) := by decide +kernel
theorem d_L_law_842 : decode cL_law 842 = .ok (.iload 6, 2) := by decide +kernel
theorem d_L_law_844 : decode cL_law 844 = .ok (.i2l, 1) := by decide +kernel
theorem d_L_law_845 : decode cL_law 845 = .ok (.lcmp, 1) := by decide +kernel
theorem d_L_law_846 : decode cL_law 846 = .ok (.ifCond .eq 5, 3) := by decide +kernel
theorem d_L_law_849 : decode cL_law 849 = .ok (.iconst 0, 1) := by decide +kernel
theorem d_L_law_850 : decode cL_law 850 = .ok (.ireturn, 1) := by decide +kernel
set_option maxRecDepth 100000 in
theorem lb_834 {p : Program} {l : Launch} {e : Env} {s : State} {m : MethodId} {args : Array Value} {below : List Frame} {meth : Method} {c : Code} {D : va_G} {ca : Nat → ClassId} {ad sx sy : Nat → Nat} {A : Nat → Prop} {Q : QT} {b L k : Nat} {xs : Nat → Int32} (hl0 : l.stackTraces = false) (hk : k < 600) (C0 : CX p s m args meth c cL_law 7 yL_law.cls D ca ad A) (hE : EX sx sy A s s.heap) (hr : meth.sig.returnType = some .boolean) (hno : ∀ x ∈ c.exceptionTable.toList, False) (hX : va_X b L xs s s.heap) (hbl : b < s.heap.size) (hbA : ¬ A b) (hL : L < 2147483648) : ∀ ls st M, wpl (LJ p l e s m args below meth c D ca ad A Q k) Q (b_L_law_834 b L xs) ls st M → LJ p l e s m args below meth c D ca ad A Q k 834 ls st M := s_il C0 (d_L_law_834) (hgl rfl) (s_zne C0 (d_L_law_836) (by decide) (hgl rfl) (hgl rfl) (fun _ _ _ h => h) (s_aln C0 (d_L_law_839) (hgl rfl) (s_ic C0 (d_L_law_840) (hgl rfl) (s_la C0 (d_L_law_841) (hgl rfl) (s_il C0 (d_L_law_842) (hgl rfl) (s_i2l C0 (d_L_law_844) (hgl rfl) (s_lcmp C0 (d_L_law_845) (hgl rfl) (s_zeq C0 (d_L_law_846) (by decide) (hgl rfl) (hgl rfl) (fun _ _ _ h => h) (s_ic C0 (d_L_law_849) (hgl rfl) (s_rz C0 hr (d_L_law_850) (hfr hk)) (okn rfl))))))) (okn rfl))))
theorem d_L_law_851 : decode cL_law 851 = .ok (.goto 980, 3) := by decide +kernel
set_option maxRecDepth 100000 in
theorem lb_851 {p : Program} {l : Launch} {e : Env} {s : State} {m : MethodId} {args : Array Value} {below : List Frame} {meth : Method} {c : Code} {D : va_G} {ca : Nat → ClassId} {ad sx sy : Nat → Nat} {A : Nat → Prop} {Q : QT} {b L k : Nat} {xs : Nat → Int32} (hl0 : l.stackTraces = false) (hk : k < 600) (C0 : CX p s m args meth c cL_law 7 yL_law.cls D ca ad A) (hE : EX sx sy A s s.heap) (hr : meth.sig.returnType = some .boolean) (hno : ∀ x ∈ c.exceptionTable.toList, False) (hX : va_X b L xs s s.heap) (hbl : b < s.heap.size) (hbA : ¬ A b) (hL : L < 2147483648) : ∀ ls st M, wpl (LJ p l e s m args below meth c D ca ad A Q k) Q (b_L_law_851 b L xs) ls st M → LJ p l e s m args below meth c D ca ad A Q k 851 ls st M := s_goto C0 (tgt := 1831) (d_L_law_851) (by decide) (hgl rfl) (fun _ _ _ h => h)
theorem wg1539 : Cond.code ⟨"WeighedHallModel", "passes", "(I)I"⟩ prog_13_method_51_code 2 (Option.some .int) ∈ GT := gt_mem 1659 (by decide +kernel) rfl
theorem wg1536 : Cond.methodLink "WeighedHallLaw" 135 ⟨"WeighedHallModel", "passes", "(I)I"⟩ ∈ GT := gt_mem 1656 (by decide +kernel) rfl
theorem wg1537 : Cond.instanceMethod ⟨"WeighedHallModel", "passes", "(I)I"⟩ ∈ GT := gt_mem 1657 (by decide +kernel) rfl
theorem wg1538 : Cond.selects "WeighedHallModel" ⟨"WeighedHallModel", "passes", "(I)I"⟩ ⟨"WeighedHallModel", "passes", "(I)I"⟩ ∈ GT := gt_mem 1658 (by decide +kernel) rfl
theorem wg984 : Cond.codeWith ⟨"WeighedHallLaw", "passes", "(LWeighedHall;I[J)I"⟩ method_12_code 4 (Option.some .int) [(0, 9, 12, 13)] ∈ GT := gt_mem 1104 (by decide +kernel) rfl
theorem wg982 : Cond.methodLink "WeighedHallLaw" 133 ⟨"WeighedHallLaw", "passes", "(LWeighedHall;I[J)I"⟩ ∈ GT := gt_mem 1102 (by decide +kernel) rfl
theorem wg983 : Cond.static ⟨"WeighedHallLaw", "passes", "(LWeighedHall;I[J)I"⟩ ∈ GT := gt_mem 1103 (by decide +kernel) rfl
theorem d_L_law_854 : decode cL_law 854 = .ok (.aload_n 1, 1) := by decide +kernel
theorem d_L_law_855 : decode cL_law 855 = .ok (.aload_n 0, 1) := by decide +kernel
theorem d_L_law_856 : decode cL_law 856 = .ok (.iload 4, 2) := by decide +kernel
theorem d_L_law_858 : decode cL_law 858 = .ok (.iconst 1, 1) := by decide +kernel
theorem d_L_law_859 : decode cL_law 859 = .ok (.iadd, 1) := by decide +kernel
theorem d_L_law_860 : decode cL_law 860 = .ok (.iaload, 1) := by decide +kernel
theorem d_L_law_861 : decode cL_law 861 = .ok (.aload_n 3, 1) := by decide +kernel
theorem d_L_law_862 : decode cL_law 862 = .ok (.invokestatic 133, 3) := by decide +kernel
theorem d_L_law_865 : decode cL_law 865 = .ok (.istore 5, 2) := by decide +kernel
theorem d_L_law_867 : decode cL_law 867 = .ok (.aload_n 2, 1) := by decide +kernel
theorem d_L_law_868 : decode cL_law 868 = .ok (.aload_n 0, 1) := by decide +kernel
theorem d_L_law_869 : decode cL_law 869 = .ok (.iload 4, 2) := by decide +kernel
theorem d_L_law_871 : decode cL_law 871 = .ok (.iconst 1, 1) := by decide +kernel
theorem d_L_law_872 : decode cL_law 872 = .ok (.iadd, 1) := by decide +kernel
theorem d_L_law_873 : decode cL_law 873 = .ok (.iaload, 1) := by decide +kernel
theorem d_L_law_874 : decode cL_law 874 = .ok (.invokevirtual 135, 3) := by decide +kernel
theorem d_L_law_877 : decode cL_law 877 = .ok (.istore 6, 2) := by decide +kernel
theorem d_L_law_879 : decode cL_law 879 = .ok (.aload_n 2, 1) := by decide +kernel
theorem d_L_law_880 : decode cL_law 880 = .ok (.invokevirtual 99, 3) := by decide +kernel
theorem d_L_law_883 : decode cL_law 883 = .ok (.iload 5, 2) := by decide +kernel
theorem d_L_law_885 : decode cL_law 885 = .ok (.if_icmp .eq 5, 3) := by decide +kernel
theorem d_L_law_888 : decode cL_law 888 = .ok (.iconst 0, 1) := by decide +kernel
theorem d_L_law_889 : decode cL_law 889 = .ok (.ireturn, 1) := by decide +kernel
set_option maxRecDepth 100000 in
theorem lb_854 {p : Program} {l : Launch} {e : Env} {s : State} {m : MethodId} {args : Array Value} {below : List Frame} {meth : Method} {c : Code} {D : va_G} {ca : Nat → ClassId} {ad sx sy : Nat → Nat} {A : Nat → Prop} {Q : QT} {b L k : Nat} {xs : Nat → Int32} (hl0 : l.stackTraces = false) (hk : k < 600) (C0 : CX p s m args meth c cL_law 7 yL_law.cls D ca ad A) (hE : EX sx sy A s s.heap) (hr : meth.sig.returnType = some .boolean) (hno : ∀ x ∈ c.exceptionTable.toList, False) (hX : va_X b L xs s s.heap) (hbl : b < s.heap.size) (hbA : ¬ A b) (hL : L < 2147483648) : ∀ ls st M, wpl (LJ p l e s m args below meth c D ca ad A Q k) Q (b_L_law_854 b L xs) ls st M → LJ p l e s m args below meth c D ca ad A Q k 854 ls st M := s_aln C0 (d_L_law_854) (hgl rfl) (s_aln C0 (d_L_law_855) (hgl rfl) (s_il C0 (d_L_law_856) (hgl rfl) (s_ic C0 (d_L_law_858) (hgl rfl) (s_add C0 (d_L_law_859) (hgl rfl) (s_scr C0 hX hbl hbA (d_L_law_860) (hgl rfl) (s_aln C0 (d_L_law_861) (hgl rfl) (s_callSH C0 hE (c_L_passes l hl0) wg984 wg982 wg983 wg0 ⟨by decide, by decide⟩ (by decide +kernel) ⟨by decide, by decide⟩ (hfl hk rfl) (d_L_law_862) (fun x hx => (hno x hx).elim) (hgc rfl rfl rfl) (hfl hk rfl) (s_is C0 (d_L_law_865) (hgl rfl) (s_aln C0 (d_L_law_867) (hgl rfl) (s_aln C0 (d_L_law_868) (hgl rfl) (s_il C0 (d_L_law_869) (hgl rfl) (s_ic C0 (d_L_law_871) (hgl rfl) (s_add C0 (d_L_law_872) (hgl rfl) (s_scr C0 hX hbl hbA (d_L_law_873) (hgl rfl) (s_callV C0 hE (c_X11_passes l) wg1539 wg1536 wg1537 wg1538 wg12 ⟨by decide, by decide⟩ (by decide +kernel) (c0 := 11) rfl ⟨by decide, by decide⟩ (hfl hk rfl) (d_L_law_874) (fun x hx => (hno x hx).elim) (hgc0 rfl) (hfl hk rfl) (s_is C0 (d_L_law_877) (hgl rfl) (s_aln C0 (d_L_law_879) (hgl rfl) (s_callV C0 hE (c_X11_thrown l) wg1344 wg1341 wg1342 wg1343 wg12 ⟨by decide, by decide⟩ (by decide +kernel) (c0 := 11) rfl ⟨by decide, by decide⟩ (hfl hk rfl) (d_L_law_880) (fun x hx => (hno x hx).elim) (hgc0 rfl) (hfl hk rfl) (s_il C0 (d_L_law_883) (hgl rfl) (s_ceq C0 (d_L_law_885) (by decide) (hgl rfl) (hgl rfl) (fun _ _ _ h => h) (s_ic C0 (d_L_law_888) (hgl rfl) (s_rz C0 hr (d_L_law_889) (hfr hk)) (okn rfl)))))))))) (okn rfl)))))))))) (okn rfl))))
theorem d_L_law_890 : decode cL_law 890 = .ok (.iload 5, 2) := by decide +kernel
theorem d_L_law_892 : decode cL_law 892 = .ok (.ifCond .ne 15, 3) := by decide +kernel
theorem d_L_law_895 : decode cL_law 895 = .ok (.aload_n 3, 1) := by decide +kernel
theorem d_L_law_896 : decode cL_law 896 = .ok (.iconst 0, 1) := by decide +kernel
theorem d_L_law_897 : decode cL_law 897 = .ok (.laload, 1) := by decide +kernel
theorem d_L_law_898 : decode cL_law 898 = .ok (.iload 6, 2) := by decide +kernel
theorem d_L_law_900 : decode cL_law 900 = .ok (.i2l, 1) := by decide +kernel
theorem d_L_law_901 : decode cL_law 901 = .ok (.lcmp, 1) := by decide +kernel
theorem d_L_law_902 : decode cL_law 902 = .ok (.ifCond .eq 5, 3) := by decide +kernel
theorem d_L_law_905 : decode cL_law 905 = .ok (.iconst 0, 1) := by decide +kernel
theorem d_L_law_906 : decode cL_law 906 = .ok (.ireturn, 1) := by decide +kernel
set_option maxRecDepth 100000 in
theorem lb_890 {p : Program} {l : Launch} {e : Env} {s : State} {m : MethodId} {args : Array Value} {below : List Frame} {meth : Method} {c : Code} {D : va_G} {ca : Nat → ClassId} {ad sx sy : Nat → Nat} {A : Nat → Prop} {Q : QT} {b L k : Nat} {xs : Nat → Int32} (hl0 : l.stackTraces = false) (hk : k < 600) (C0 : CX p s m args meth c cL_law 7 yL_law.cls D ca ad A) (hE : EX sx sy A s s.heap) (hr : meth.sig.returnType = some .boolean) (hno : ∀ x ∈ c.exceptionTable.toList, False) (hX : va_X b L xs s s.heap) (hbl : b < s.heap.size) (hbA : ¬ A b) (hL : L < 2147483648) : ∀ ls st M, wpl (LJ p l e s m args below meth c D ca ad A Q k) Q (b_L_law_890 b L xs) ls st M → LJ p l e s m args below meth c D ca ad A Q k 890 ls st M := s_il C0 (d_L_law_890) (hgl rfl) (s_zne C0 (d_L_law_892) (by decide) (hgl rfl) (hgl rfl) (fun _ _ _ h => h) (s_aln C0 (d_L_law_895) (hgl rfl) (s_ic C0 (d_L_law_896) (hgl rfl) (s_la C0 (d_L_law_897) (hgl rfl) (s_il C0 (d_L_law_898) (hgl rfl) (s_i2l C0 (d_L_law_900) (hgl rfl) (s_lcmp C0 (d_L_law_901) (hgl rfl) (s_zeq C0 (d_L_law_902) (by decide) (hgl rfl) (hgl rfl) (fun _ _ _ h => h) (s_ic C0 (d_L_law_905) (hgl rfl) (s_rz C0 hr (d_L_law_906) (hfr hk)) (okn rfl))))))) (okn rfl))))
theorem d_L_law_907 : decode cL_law 907 = .ok (.goto 924, 3) := by decide +kernel
set_option maxRecDepth 100000 in
theorem lb_907 {p : Program} {l : Launch} {e : Env} {s : State} {m : MethodId} {args : Array Value} {below : List Frame} {meth : Method} {c : Code} {D : va_G} {ca : Nat → ClassId} {ad sx sy : Nat → Nat} {A : Nat → Prop} {Q : QT} {b L k : Nat} {xs : Nat → Int32} (hl0 : l.stackTraces = false) (hk : k < 600) (C0 : CX p s m args meth c cL_law 7 yL_law.cls D ca ad A) (hE : EX sx sy A s s.heap) (hr : meth.sig.returnType = some .boolean) (hno : ∀ x ∈ c.exceptionTable.toList, False) (hX : va_X b L xs s s.heap) (hbl : b < s.heap.size) (hbA : ¬ A b) (hL : L < 2147483648) : ∀ ls st M, wpl (LJ p l e s m args below meth c D ca ad A Q k) Q (b_L_law_907 b L xs) ls st M → LJ p l e s m args below meth c D ca ad A Q k 907 ls st M := s_goto C0 (tgt := 1831) (d_L_law_907) (by decide) (hgl rfl) (fun _ _ _ h => h)
theorem wg1543 : Cond.code ⟨"WeighedHallModel", "unlike", "(II)I"⟩ prog_13_method_53_code 3 (Option.some .int) ∈ GT := gt_mem 1663 (by decide +kernel) rfl
theorem wg1540 : Cond.methodLink "WeighedHallLaw" 138 ⟨"WeighedHallModel", "unlike", "(II)I"⟩ ∈ GT := gt_mem 1660 (by decide +kernel) rfl
theorem wg1541 : Cond.instanceMethod ⟨"WeighedHallModel", "unlike", "(II)I"⟩ ∈ GT := gt_mem 1661 (by decide +kernel) rfl
theorem wg1542 : Cond.selects "WeighedHallModel" ⟨"WeighedHallModel", "unlike", "(II)I"⟩ ⟨"WeighedHallModel", "unlike", "(II)I"⟩ ∈ GT := gt_mem 1662 (by decide +kernel) rfl
theorem wg996 : Cond.codeWith ⟨"WeighedHallLaw", "unlike", "(LWeighedHall;II[J)I"⟩ method_13_code 5 (Option.some .int) [(0, 10, 13, 13)] ∈ GT := gt_mem 1116 (by decide +kernel) rfl
theorem wg994 : Cond.methodLink "WeighedHallLaw" 136 ⟨"WeighedHallLaw", "unlike", "(LWeighedHall;II[J)I"⟩ ∈ GT := gt_mem 1114 (by decide +kernel) rfl
theorem wg995 : Cond.static ⟨"WeighedHallLaw", "unlike", "(LWeighedHall;II[J)I"⟩ ∈ GT := gt_mem 1115 (by decide +kernel) rfl
theorem d_L_law_910 : decode cL_law 910 = .ok (.aload_n 1, 1) := by decide +kernel
theorem d_L_law_911 : decode cL_law 911 = .ok (.aload_n 0, 1) := by decide +kernel
theorem d_L_law_912 : decode cL_law 912 = .ok (.iload 4, 2) := by decide +kernel
theorem d_L_law_914 : decode cL_law 914 = .ok (.iconst 1, 1) := by decide +kernel
theorem d_L_law_915 : decode cL_law 915 = .ok (.iadd, 1) := by decide +kernel
theorem d_L_law_916 : decode cL_law 916 = .ok (.iaload, 1) := by decide +kernel
theorem d_L_law_917 : decode cL_law 917 = .ok (.aload_n 0, 1) := by decide +kernel
theorem d_L_law_918 : decode cL_law 918 = .ok (.iload 4, 2) := by decide +kernel
theorem d_L_law_920 : decode cL_law 920 = .ok (.iconst 2, 1) := by decide +kernel
theorem d_L_law_921 : decode cL_law 921 = .ok (.iadd, 1) := by decide +kernel
theorem d_L_law_922 : decode cL_law 922 = .ok (.iaload, 1) := by decide +kernel
theorem d_L_law_923 : decode cL_law 923 = .ok (.aload_n 3, 1) := by decide +kernel
theorem d_L_law_924 : decode cL_law 924 = .ok (.invokestatic 136, 3) := by decide +kernel
theorem d_L_law_927 : decode cL_law 927 = .ok (.istore 5, 2) := by decide +kernel
theorem d_L_law_929 : decode cL_law 929 = .ok (.aload_n 2, 1) := by decide +kernel
theorem d_L_law_930 : decode cL_law 930 = .ok (.aload_n 0, 1) := by decide +kernel
theorem d_L_law_931 : decode cL_law 931 = .ok (.iload 4, 2) := by decide +kernel
theorem d_L_law_933 : decode cL_law 933 = .ok (.iconst 1, 1) := by decide +kernel
theorem d_L_law_934 : decode cL_law 934 = .ok (.iadd, 1) := by decide +kernel
theorem d_L_law_935 : decode cL_law 935 = .ok (.iaload, 1) := by decide +kernel
theorem d_L_law_936 : decode cL_law 936 = .ok (.aload_n 0, 1) := by decide +kernel
theorem d_L_law_937 : decode cL_law 937 = .ok (.iload 4, 2) := by decide +kernel
theorem d_L_law_939 : decode cL_law 939 = .ok (.iconst 2, 1) := by decide +kernel
theorem d_L_law_940 : decode cL_law 940 = .ok (.iadd, 1) := by decide +kernel
theorem d_L_law_941 : decode cL_law 941 = .ok (.iaload, 1) := by decide +kernel
theorem d_L_law_942 : decode cL_law 942 = .ok (.invokevirtual 138, 3) := by decide +kernel
theorem d_L_law_945 : decode cL_law 945 = .ok (.istore 6, 2) := by decide +kernel
theorem d_L_law_947 : decode cL_law 947 = .ok (.aload_n 2, 1) := by decide +kernel
theorem d_L_law_948 : decode cL_law 948 = .ok (.invokevirtual 99, 3) := by decide +kernel
theorem d_L_law_951 : decode cL_law 951 = .ok (.iload 5, 2) := by decide +kernel
theorem d_L_law_953 : decode cL_law 953 = .ok (.if_icmp .eq 5, 3) := by decide +kernel
theorem d_L_law_956 : decode cL_law 956 = .ok (.iconst 0, 1) := by decide +kernel
theorem d_L_law_957 : decode cL_law 957 = .ok (.ireturn, 1) := by decide +kernel
set_option maxRecDepth 100000 in
theorem lb_910 {p : Program} {l : Launch} {e : Env} {s : State} {m : MethodId} {args : Array Value} {below : List Frame} {meth : Method} {c : Code} {D : va_G} {ca : Nat → ClassId} {ad sx sy : Nat → Nat} {A : Nat → Prop} {Q : QT} {b L k : Nat} {xs : Nat → Int32} (hl0 : l.stackTraces = false) (hk : k < 600) (C0 : CX p s m args meth c cL_law 7 yL_law.cls D ca ad A) (hE : EX sx sy A s s.heap) (hr : meth.sig.returnType = some .boolean) (hno : ∀ x ∈ c.exceptionTable.toList, False) (hX : va_X b L xs s s.heap) (hbl : b < s.heap.size) (hbA : ¬ A b) (hL : L < 2147483648) : ∀ ls st M, wpl (LJ p l e s m args below meth c D ca ad A Q k) Q (b_L_law_910 b L xs) ls st M → LJ p l e s m args below meth c D ca ad A Q k 910 ls st M := s_aln C0 (d_L_law_910) (hgl rfl) (s_aln C0 (d_L_law_911) (hgl rfl) (s_il C0 (d_L_law_912) (hgl rfl) (s_ic C0 (d_L_law_914) (hgl rfl) (s_add C0 (d_L_law_915) (hgl rfl) (s_scr C0 hX hbl hbA (d_L_law_916) (hgl rfl) (s_aln C0 (d_L_law_917) (hgl rfl) (s_il C0 (d_L_law_918) (hgl rfl) (s_ic C0 (d_L_law_920) (hgl rfl) (s_add C0 (d_L_law_921) (hgl rfl) (s_scr C0 hX hbl hbA (d_L_law_922) (hgl rfl) (s_aln C0 (d_L_law_923) (hgl rfl) (s_callSH C0 hE (c_L_unlike l hl0) wg996 wg994 wg995 wg0 ⟨by decide, by decide⟩ (by decide +kernel) ⟨by decide, by decide⟩ (hfl hk rfl) (d_L_law_924) (fun x hx => (hno x hx).elim) (hgc rfl rfl rfl) (hfl hk rfl) (s_is C0 (d_L_law_927) (hgl rfl) (s_aln C0 (d_L_law_929) (hgl rfl) (s_aln C0 (d_L_law_930) (hgl rfl) (s_il C0 (d_L_law_931) (hgl rfl) (s_ic C0 (d_L_law_933) (hgl rfl) (s_add C0 (d_L_law_934) (hgl rfl) (s_scr C0 hX hbl hbA (d_L_law_935) (hgl rfl) (s_aln C0 (d_L_law_936) (hgl rfl) (s_il C0 (d_L_law_937) (hgl rfl) (s_ic C0 (d_L_law_939) (hgl rfl) (s_add C0 (d_L_law_940) (hgl rfl) (s_scr C0 hX hbl hbA (d_L_law_941) (hgl rfl) (s_callV C0 hE (c_X11_unlike l) wg1543 wg1540 wg1541 wg1542 wg12 ⟨by decide, by decide⟩ (by decide +kernel) (c0 := 11) rfl ⟨by decide, by decide⟩ (hfl hk rfl) (d_L_law_942) (fun x hx => (hno x hx).elim) (hgc0 rfl) (hfl hk rfl) (s_is C0 (d_L_law_945) (hgl rfl) (s_aln C0 (d_L_law_947) (hgl rfl) (s_callV C0 hE (c_X11_thrown l) wg1344 wg1341 wg1342 wg1343 wg12 ⟨by decide, by decide⟩ (by decide +kernel) (c0 := 11) rfl ⟨by decide, by decide⟩ (hfl hk rfl) (d_L_law_948) (fun x hx => (hno x hx).elim) (hgc0 rfl) (hfl hk rfl) (s_il C0 (d_L_law_951) (hgl rfl) (s_ceq C0 (d_L_law_953) (by decide) (hgl rfl) (hgl rfl) (fun _ _ _ h => h) (s_ic C0 (d_L_law_956) (hgl rfl) (s_rz C0 hr (d_L_law_957) (hfr hk)) (okn rfl)))))))))) (okn rfl)))))) (okn rfl)))))))))) (okn rfl)))))) (okn rfl))))
theorem d_L_law_958 : decode cL_law 958 = .ok (.iload 5, 2) := by decide +kernel
theorem d_L_law_960 : decode cL_law 960 = .ok (.ifCond .ne 15, 3) := by decide +kernel
theorem d_L_law_963 : decode cL_law 963 = .ok (.aload_n 3, 1) := by decide +kernel
theorem d_L_law_964 : decode cL_law 964 = .ok (.iconst 0, 1) := by decide +kernel
theorem d_L_law_965 : decode cL_law 965 = .ok (.laload, 1) := by decide +kernel
theorem d_L_law_966 : decode cL_law 966 = .ok (.iload 6, 2) := by decide +kernel
theorem d_L_law_968 : decode cL_law 968 = .ok (.i2l, 1) := by decide +kernel
theorem d_L_law_969 : decode cL_law 969 = .ok (.lcmp, 1) := by decide +kernel
theorem d_L_law_970 : decode cL_law 970 = .ok (.ifCond .eq 5, 3) := by decide +kernel
theorem d_L_law_973 : decode cL_law 973 = .ok (.iconst 0, 1) := by decide +kernel
theorem d_L_law_974 : decode cL_law 974 = .ok (.ireturn, 1) := by decide +kernel
set_option maxRecDepth 100000 in
theorem lb_958 {p : Program} {l : Launch} {e : Env} {s : State} {m : MethodId} {args : Array Value} {below : List Frame} {meth : Method} {c : Code} {D : va_G} {ca : Nat → ClassId} {ad sx sy : Nat → Nat} {A : Nat → Prop} {Q : QT} {b L k : Nat} {xs : Nat → Int32} (hl0 : l.stackTraces = false) (hk : k < 600) (C0 : CX p s m args meth c cL_law 7 yL_law.cls D ca ad A) (hE : EX sx sy A s s.heap) (hr : meth.sig.returnType = some .boolean) (hno : ∀ x ∈ c.exceptionTable.toList, False) (hX : va_X b L xs s s.heap) (hbl : b < s.heap.size) (hbA : ¬ A b) (hL : L < 2147483648) : ∀ ls st M, wpl (LJ p l e s m args below meth c D ca ad A Q k) Q (b_L_law_958 b L xs) ls st M → LJ p l e s m args below meth c D ca ad A Q k 958 ls st M := s_il C0 (d_L_law_958) (hgl rfl) (s_zne C0 (d_L_law_960) (by decide) (hgl rfl) (hgl rfl) (fun _ _ _ h => h) (s_aln C0 (d_L_law_963) (hgl rfl) (s_ic C0 (d_L_law_964) (hgl rfl) (s_la C0 (d_L_law_965) (hgl rfl) (s_il C0 (d_L_law_966) (hgl rfl) (s_i2l C0 (d_L_law_968) (hgl rfl) (s_lcmp C0 (d_L_law_969) (hgl rfl) (s_zeq C0 (d_L_law_970) (by decide) (hgl rfl) (hgl rfl) (fun _ _ _ h => h) (s_ic C0 (d_L_law_973) (hgl rfl) (s_rz C0 hr (d_L_law_974) (hfr hk)) (okn rfl))))))) (okn rfl))))
theorem d_L_law_975 : decode cL_law 975 = .ok (.goto 856, 3) := by decide +kernel
set_option maxRecDepth 100000 in
theorem lb_975 {p : Program} {l : Launch} {e : Env} {s : State} {m : MethodId} {args : Array Value} {below : List Frame} {meth : Method} {c : Code} {D : va_G} {ca : Nat → ClassId} {ad sx sy : Nat → Nat} {A : Nat → Prop} {Q : QT} {b L k : Nat} {xs : Nat → Int32} (hl0 : l.stackTraces = false) (hk : k < 600) (C0 : CX p s m args meth c cL_law 7 yL_law.cls D ca ad A) (hE : EX sx sy A s s.heap) (hr : meth.sig.returnType = some .boolean) (hno : ∀ x ∈ c.exceptionTable.toList, False) (hX : va_X b L xs s s.heap) (hbl : b < s.heap.size) (hbA : ¬ A b) (hL : L < 2147483648) : ∀ ls st M, wpl (LJ p l e s m args below meth c D ca ad A Q k) Q (b_L_law_975 b L xs) ls st M → LJ p l e s m args below meth c D ca ad A Q k 975 ls st M := s_goto C0 (tgt := 1831) (d_L_law_975) (by decide) (hgl rfl) (fun _ _ _ h => h)
theorem wg1550 : Cond.code ⟨"WeighedHallModel", "sums", "(II)I"⟩ prog_13_method_54_code 6 (Option.some .int) ∈ GT := gt_mem 1670 (by decide +kernel) rfl
theorem wg1547 : Cond.methodLink "WeighedHallLaw" 141 ⟨"WeighedHallModel", "sums", "(II)I"⟩ ∈ GT := gt_mem 1667 (by decide +kernel) rfl
theorem wg1548 : Cond.instanceMethod ⟨"WeighedHallModel", "sums", "(II)I"⟩ ∈ GT := gt_mem 1668 (by decide +kernel) rfl
theorem wg1549 : Cond.selects "WeighedHallModel" ⟨"WeighedHallModel", "sums", "(II)I"⟩ ⟨"WeighedHallModel", "sums", "(II)I"⟩ ∈ GT := gt_mem 1669 (by decide +kernel) rfl
theorem wg1003 : Cond.codeWith ⟨"WeighedHallLaw", "sums", "(LWeighedHall;II[J)I"⟩ method_14_code 5 (Option.some .int) [(0, 10, 13, 13)] ∈ GT := gt_mem 1123 (by decide +kernel) rfl
theorem wg1001 : Cond.methodLink "WeighedHallLaw" 139 ⟨"WeighedHallLaw", "sums", "(LWeighedHall;II[J)I"⟩ ∈ GT := gt_mem 1121 (by decide +kernel) rfl
theorem wg1002 : Cond.static ⟨"WeighedHallLaw", "sums", "(LWeighedHall;II[J)I"⟩ ∈ GT := gt_mem 1122 (by decide +kernel) rfl
theorem d_L_law_978 : decode cL_law 978 = .ok (.aload_n 1, 1) := by decide +kernel
theorem d_L_law_979 : decode cL_law 979 = .ok (.aload_n 0, 1) := by decide +kernel
theorem d_L_law_980 : decode cL_law 980 = .ok (.iload 4, 2) := by decide +kernel
theorem d_L_law_982 : decode cL_law 982 = .ok (.iconst 1, 1) := by decide +kernel
theorem d_L_law_983 : decode cL_law 983 = .ok (.iadd, 1) := by decide +kernel
theorem d_L_law_984 : decode cL_law 984 = .ok (.iaload, 1) := by decide +kernel
theorem d_L_law_985 : decode cL_law 985 = .ok (.aload_n 0, 1) := by decide +kernel
theorem d_L_law_986 : decode cL_law 986 = .ok (.iload 4, 2) := by decide +kernel
theorem d_L_law_988 : decode cL_law 988 = .ok (.iconst 2, 1) := by decide +kernel
theorem d_L_law_989 : decode cL_law 989 = .ok (.iadd, 1) := by decide +kernel
theorem d_L_law_990 : decode cL_law 990 = .ok (.iaload, 1) := by decide +kernel
theorem d_L_law_991 : decode cL_law 991 = .ok (.aload_n 3, 1) := by decide +kernel
theorem d_L_law_992 : decode cL_law 992 = .ok (.invokestatic 139, 3) := by decide +kernel
theorem d_L_law_995 : decode cL_law 995 = .ok (.istore 5, 2) := by decide +kernel
theorem d_L_law_997 : decode cL_law 997 = .ok (.aload_n 2, 1) := by decide +kernel
theorem d_L_law_998 : decode cL_law 998 = .ok (.aload_n 0, 1) := by decide +kernel
theorem d_L_law_999 : decode cL_law 999 = .ok (.iload 4, 2) := by decide +kernel
theorem d_L_law_1001 : decode cL_law 1001 = .ok (.iconst 1, 1) := by decide +kernel
theorem d_L_law_1002 : decode cL_law 1002 = .ok (.iadd, 1) := by decide +kernel
theorem d_L_law_1003 : decode cL_law 1003 = .ok (.iaload, 1) := by decide +kernel
theorem d_L_law_1004 : decode cL_law 1004 = .ok (.aload_n 0, 1) := by decide +kernel
theorem d_L_law_1005 : decode cL_law 1005 = .ok (.iload 4, 2) := by decide +kernel
theorem d_L_law_1007 : decode cL_law 1007 = .ok (.iconst 2, 1) := by decide +kernel
theorem d_L_law_1008 : decode cL_law 1008 = .ok (.iadd, 1) := by decide +kernel
theorem d_L_law_1009 : decode cL_law 1009 = .ok (.iaload, 1) := by decide +kernel
theorem d_L_law_1010 : decode cL_law 1010 = .ok (.invokevirtual 141, 3) := by decide +kernel
theorem d_L_law_1013 : decode cL_law 1013 = .ok (.istore 6, 2) := by decide +kernel
theorem d_L_law_1015 : decode cL_law 1015 = .ok (.aload_n 2, 1) := by decide +kernel
theorem d_L_law_1016 : decode cL_law 1016 = .ok (.invokevirtual 99, 3) := by decide +kernel
theorem d_L_law_1019 : decode cL_law 1019 = .ok (.iload 5, 2) := by decide +kernel
theorem d_L_law_1021 : decode cL_law 1021 = .ok (.if_icmp .eq 5, 3) := by decide +kernel
theorem d_L_law_1024 : decode cL_law 1024 = .ok (.iconst 0, 1) := by decide +kernel
theorem d_L_law_1025 : decode cL_law 1025 = .ok (.ireturn, 1) := by decide +kernel
set_option maxRecDepth 100000 in
theorem lb_978 {p : Program} {l : Launch} {e : Env} {s : State} {m : MethodId} {args : Array Value} {below : List Frame} {meth : Method} {c : Code} {D : va_G} {ca : Nat → ClassId} {ad sx sy : Nat → Nat} {A : Nat → Prop} {Q : QT} {b L k : Nat} {xs : Nat → Int32} (hl0 : l.stackTraces = false) (hk : k < 600) (C0 : CX p s m args meth c cL_law 7 yL_law.cls D ca ad A) (hE : EX sx sy A s s.heap) (hr : meth.sig.returnType = some .boolean) (hno : ∀ x ∈ c.exceptionTable.toList, False) (hX : va_X b L xs s s.heap) (hbl : b < s.heap.size) (hbA : ¬ A b) (hL : L < 2147483648) : ∀ ls st M, wpl (LJ p l e s m args below meth c D ca ad A Q k) Q (b_L_law_978 b L xs) ls st M → LJ p l e s m args below meth c D ca ad A Q k 978 ls st M := s_aln C0 (d_L_law_978) (hgl rfl) (s_aln C0 (d_L_law_979) (hgl rfl) (s_il C0 (d_L_law_980) (hgl rfl) (s_ic C0 (d_L_law_982) (hgl rfl) (s_add C0 (d_L_law_983) (hgl rfl) (s_scr C0 hX hbl hbA (d_L_law_984) (hgl rfl) (s_aln C0 (d_L_law_985) (hgl rfl) (s_il C0 (d_L_law_986) (hgl rfl) (s_ic C0 (d_L_law_988) (hgl rfl) (s_add C0 (d_L_law_989) (hgl rfl) (s_scr C0 hX hbl hbA (d_L_law_990) (hgl rfl) (s_aln C0 (d_L_law_991) (hgl rfl) (s_callSH C0 hE (c_L_sums l hl0) wg1003 wg1001 wg1002 wg0 ⟨by decide, by decide⟩ (by decide +kernel) ⟨by decide, by decide⟩ (hfl hk rfl) (d_L_law_992) (fun x hx => (hno x hx).elim) (hgc rfl rfl rfl) (hfl hk rfl) (s_is C0 (d_L_law_995) (hgl rfl) (s_aln C0 (d_L_law_997) (hgl rfl) (s_aln C0 (d_L_law_998) (hgl rfl) (s_il C0 (d_L_law_999) (hgl rfl) (s_ic C0 (d_L_law_1001) (hgl rfl) (s_add C0 (d_L_law_1002) (hgl rfl) (s_scr C0 hX hbl hbA (d_L_law_1003) (hgl rfl) (s_aln C0 (d_L_law_1004) (hgl rfl) (s_il C0 (d_L_law_1005) (hgl rfl) (s_ic C0 (d_L_law_1007) (hgl rfl) (s_add C0 (d_L_law_1008) (hgl rfl) (s_scr C0 hX hbl hbA (d_L_law_1009) (hgl rfl) (s_callV C0 hE (c_X11_sums l) wg1550 wg1547 wg1548 wg1549 wg12 ⟨by decide, by decide⟩ (by decide +kernel) (c0 := 11) rfl ⟨by decide, by decide⟩ (hfl hk rfl) (d_L_law_1010) (fun x hx => (hno x hx).elim) (hgc0 rfl) (hfl hk rfl) (s_is C0 (d_L_law_1013) (hgl rfl) (s_aln C0 (d_L_law_1015) (hgl rfl) (s_callV C0 hE (c_X11_thrown l) wg1344 wg1341 wg1342 wg1343 wg12 ⟨by decide, by decide⟩ (by decide +kernel) (c0 := 11) rfl ⟨by decide, by decide⟩ (hfl hk rfl) (d_L_law_1016) (fun x hx => (hno x hx).elim) (hgc0 rfl) (hfl hk rfl) (s_il C0 (d_L_law_1019) (hgl rfl) (s_ceq C0 (d_L_law_1021) (by decide) (hgl rfl) (hgl rfl) (fun _ _ _ h => h) (s_ic C0 (d_L_law_1024) (hgl rfl) (s_rz C0 hr (d_L_law_1025) (hfr hk)) (okn rfl)))))))))) (okn rfl)))))) (okn rfl)))))))))) (okn rfl)))))) (okn rfl))))
theorem d_L_law_1026 : decode cL_law 1026 = .ok (.iload 5, 2) := by decide +kernel
theorem d_L_law_1028 : decode cL_law 1028 = .ok (.ifCond .ne 15, 3) := by decide +kernel
theorem d_L_law_1031 : decode cL_law 1031 = .ok (.aload_n 3, 1) := by decide +kernel
theorem d_L_law_1032 : decode cL_law 1032 = .ok (.iconst 0, 1) := by decide +kernel
theorem d_L_law_1033 : decode cL_law 1033 = .ok (.laload, 1) := by decide +kernel
theorem d_L_law_1034 : decode cL_law 1034 = .ok (.iload 6, 2) := by decide +kernel
theorem d_L_law_1036 : decode cL_law 1036 = .ok (.i2l, 1) := by decide +kernel
theorem d_L_law_1037 : decode cL_law 1037 = .ok (.lcmp, 1) := by decide +kernel
theorem d_L_law_1038 : decode cL_law 1038 = .ok (.ifCond .eq 5, 3) := by decide +kernel
theorem d_L_law_1041 : decode cL_law 1041 = .ok (.iconst 0, 1) := by decide +kernel
theorem d_L_law_1042 : decode cL_law 1042 = .ok (.ireturn, 1) := by decide +kernel
set_option maxRecDepth 100000 in
theorem lb_1026 {p : Program} {l : Launch} {e : Env} {s : State} {m : MethodId} {args : Array Value} {below : List Frame} {meth : Method} {c : Code} {D : va_G} {ca : Nat → ClassId} {ad sx sy : Nat → Nat} {A : Nat → Prop} {Q : QT} {b L k : Nat} {xs : Nat → Int32} (hl0 : l.stackTraces = false) (hk : k < 600) (C0 : CX p s m args meth c cL_law 7 yL_law.cls D ca ad A) (hE : EX sx sy A s s.heap) (hr : meth.sig.returnType = some .boolean) (hno : ∀ x ∈ c.exceptionTable.toList, False) (hX : va_X b L xs s s.heap) (hbl : b < s.heap.size) (hbA : ¬ A b) (hL : L < 2147483648) : ∀ ls st M, wpl (LJ p l e s m args below meth c D ca ad A Q k) Q (b_L_law_1026 b L xs) ls st M → LJ p l e s m args below meth c D ca ad A Q k 1026 ls st M := s_il C0 (d_L_law_1026) (hgl rfl) (s_zne C0 (d_L_law_1028) (by decide) (hgl rfl) (hgl rfl) (fun _ _ _ h => h) (s_aln C0 (d_L_law_1031) (hgl rfl) (s_ic C0 (d_L_law_1032) (hgl rfl) (s_la C0 (d_L_law_1033) (hgl rfl) (s_il C0 (d_L_law_1034) (hgl rfl) (s_i2l C0 (d_L_law_1036) (hgl rfl) (s_lcmp C0 (d_L_law_1037) (hgl rfl) (s_zeq C0 (d_L_law_1038) (by decide) (hgl rfl) (hgl rfl) (fun _ _ _ h => h) (s_ic C0 (d_L_law_1041) (hgl rfl) (s_rz C0 hr (d_L_law_1042) (hfr hk)) (okn rfl))))))) (okn rfl))))
