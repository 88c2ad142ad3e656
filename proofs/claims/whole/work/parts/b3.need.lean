def exUp : List String := ["java/lang/RuntimeException", "java/lang/Exception"]
theorem ft_list (ws : List Cond) (ps : List Nat) (h : ws.map some = ps.map (fun i => lw_tbl[i]?)) (hg : ws.all (fun w => w.onTables && w.keepsFace) = true) : ∀ w ∈ ws, w ∈ FTW := by
  intro w hw
  refine List.mem_filter.mpr ⟨?_, List.all_eq_true.mp hg w hw⟩
  have h1 : some w ∈ ws.map some := List.mem_map.mpr ⟨w, hw, rfl⟩
  rw [h] at h1
  obtain ⟨i, -, hi⟩ := List.mem_map.mp h1
  exact List.mem_of_getElem? hi
theorem ex_fit : (∀ n ∈ exUp, Bundle.fit n = true) ∧ Bundle.fit (enm 1) = true ∧ Bundle.fit (enm 2) = true := by decide +kernel
theorem wg409 : Cond.fieldLink "WeighedHall" 335 "WeighedHall" "refusedElements" "I" ∈ GT := gt_mem 529 (by decide +kernel) rfl
theorem d_X10_needElement_0 : decode cX10_needElement 0 = .ok (.iload_n 1, 1) := by decide +kernel
theorem d_X10_needElement_1 : decode cX10_needElement 1 = .ok (.ifCond .ne 24, 3) := by decide +kernel
theorem d_X10_needElement_4 : decode cX10_needElement 4 = .ok (.aload_n 0, 1) := by decide +kernel
theorem d_X10_needElement_5 : decode cX10_needElement 5 = .ok (.dup, 1) := by decide +kernel
theorem d_X10_needElement_6 : decode cX10_needElement 6 = .ok (.getfield 335, 3) := by decide +kernel
theorem d_X10_needElement_9 : decode cX10_needElement 9 = .ok (.iconst 1, 1) := by decide +kernel
theorem d_X10_needElement_10 : decode cX10_needElement 10 = .ok (.iadd, 1) := by decide +kernel
theorem d_X10_needElement_11 : decode cX10_needElement 11 = .ok (.putfield 335, 3) := by decide +kernel
theorem d_X10_needElement_14 : decode cX10_needElement 14 = .ok (.new 341, 3) := by decide +kernel
theorem d_X10_needElement_17 : decode cX10_needElement 17 = .ok (.dup, 1) := by decide +kernel
theorem d_X10_needElement_18 : decode cX10_needElement 18 = .ok (.ldc_w 343, 3) := by decide +kernel
theorem d_X10_needElement_21 : decode cX10_needElement 21 = .ok (.invokespecial 345, 3) := by decide +kernel
theorem d_X10_needElement_24 : decode cX10_needElement 24 = .ok (.athrow, 1) := by decide +kernel
theorem d_X10_needElement_25 : decode cX10_needElement 25 = .ok (.return_, 1) := by decide +kernel
theorem ex_d1 : decode prog_29_method_4_code 0 = .ok (.aload_n 0, 1) ∧ decode prog_29_method_4_code 1 = .ok (.aload_n 1, 1) ∧ decode prog_29_method_4_code 2 = .ok (.invokespecial 13, 3) ∧ decode prog_29_method_4_code 5 = .ok (.return_, 1) := by decide +kernel
theorem ex_at1 : ∀ w ∈ (Bundle.ownAtomsX RX10 345 (enm 1) 13 prog_29_method_4_code exUp).filter vx_no, w ∈ FTW := ft_list _ (133 :: 706 :: 715 :: 718 :: 721 :: 723 :: 707 :: 708 :: 151 :: 152 :: 709 :: 714 :: 719 :: 739 :: 696 :: 740 :: 698 :: 741 :: 700 :: 710 :: 712 :: 702 :: 735 :: 736 :: 738 :: 702 :: 947 :: 948 :: 949 :: 729 :: 688 :: 729 :: 730 :: 731 :: 732 :: 690 :: 732 :: 733 :: 734 :: 735 :: 692 :: 946 :: 937 :: 938 :: 939 :: 717 :: 940 :: 941 :: 942 :: 943 :: 705 :: 704 :: 944 :: []) (by decide +kernel) (by decide +kernel)
theorem ex_kl1 : ∀ w ∈ [Cond.classLink RX10 341 (enm 1), Cond.initialized (enm 1)], w ∈ FTW := ft_list _ [936, 142] (by decide +kernel) (by decide +kernel)
def b_X10_needElement_0 : List AT := [tx_il 1, tx_ifz r_ne 25, tx_al 0, tx_dup, tx_gi 10 16, tx_ic 1, tx_bin f_add, tx_pi 10 16, tx_thr 1]
def R_X10_needElement (J : JT) (Q : QT) : Prop := (∀ ls st M, wpl J Q b_X10_needElement_0 ls st M → J 0 ls st M) ∧ (∀ ls st M, wpl J Q [tx_rv] ls st M → J 25 ls st M)
theorem P_X10_needElement {J : JT} {Q : QT} (R : R_X10_needElement J Q) {as : List Vl} {M : Mem} (h : F_X10_needElement as M Q) : (enL as).length ≤ 2 ∧ J 0 (padL 2 (enL as)) [] M := by
  unfold F_X10_needElement at h
  split at h
  · obtain ⟨rfl, h1, h2⟩ := h
    exact ⟨Nat.le_of_ble_eq_true rfl, R.1 _ _ _ (br (fun g => R.2 _ _ _ (h1 g)) (fun g => an o0 (an o0 (h2 (Classical.not_not.mp g)))))⟩
  · exact h.elim
set_option maxRecDepth 100000 in
theorem L_X10_needElement {p : Program} {l : Launch} {e : Env} {s : State} {m : MethodId} {args : Array Value} {below : List Frame} {meth : Method} {c : Code} {D : va_G} {ca : Nat → ClassId} {ad sx sy : Nat → Nat} {A : Nat → Prop} {Q : QT} (hl0 : l.stackTraces = false) (C0 : CX p s m args meth c cX10_needElement 2 yX10_needElement.cls D ca ad A) (hE : EX sx sy A s s.heap) (hr : meth.sig.returnType = none) (hno : ∀ x ∈ c.exceptionTable.toList, False) : R_X10_needElement (JW p l e { frames := 10, cells := 1, slots := 6 * 1, locals := 200 } s m args below meth c 2 D ca ad A (vx_MQ below (Qn D ca ad A Q) (Qx D ca ad A Q) args s 1 (6 * 1) A) gz gz true) Q := ⟨s_iln C0 (d_X10_needElement_0) hgz (s_zne C0 (d_X10_needElement_1) (by decide) hgz hgz (fun _ _ _ h => h) (s_aln C0 (d_X10_needElement_4) hgz (s_dup C0 (d_X10_needElement_5) hgz (s_gi C0 (j := 16) (c0 := 10) rfl gX10 (by decide) rfl (by decide) wg409 (d_X10_needElement_6) hgz (s_ic C0 (d_X10_needElement_9) hgz (s_add C0 (d_X10_needElement_10) hgz (s_pi C0 (j := 16) (c0 := 10) rfl gX10 tyX10_ok nmX10 (by decide) rfl (by decide) rfl rfl wg409 (d_X10_needElement_11) hgz (s_thr C0 hE hl0 (Or.inl rfl) ex_fit.2.1 ex_fit.1 (ex_kl1 _ List.mem_cons_self) (ex_kl1 _ (List.mem_cons_of_mem _ List.mem_cons_self)) (si := 8) rfl ex_at1 ex_d1.1 ex_d1.2.1 ex_d1.2.2.1 ex_d1.2.2.2 d_X10_needElement_14 d_X10_needElement_17 d_X10_needElement_18 d_X10_needElement_21 d_X10_needElement_24 hno (by decide) (by decide) (by decide) (by decide) (by decide) (by decide)))) (okn rfl)))))),
  s_rv C0 hr (d_X10_needElement_25) ⟨by decide, by decide⟩⟩
theorem c_X10_needElement (l : Launch) (hl0 : l.stackTraces = false) : Ctr l yX10_needElement cX10_needElement 2 none 10 200 1 (fun _ => F_X10_needElement) := ctr_of (by decide) gz gz ⟨rfl, rfl⟩ (fun p e s m args below meth c D ca ad sx sy A Q as M C0 hE hr hno hF => P_X10_needElement (L_X10_needElement hl0 C0 hE hr hno) hF)
theorem wg410 : Cond.fieldLink "WeighedHall" 338 "WeighedHall" "refusedArguments" "I" ∈ GT := gt_mem 530 (by decide +kernel) rfl
theorem d_X10_needArgument_0 : decode cX10_needArgument 0 = .ok (.iload_n 1, 1) := by decide +kernel
theorem d_X10_needArgument_1 : decode cX10_needArgument 1 = .ok (.ifCond .ne 24, 3) := by decide +kernel
theorem d_X10_needArgument_4 : decode cX10_needArgument 4 = .ok (.aload_n 0, 1) := by decide +kernel
theorem d_X10_needArgument_5 : decode cX10_needArgument 5 = .ok (.dup, 1) := by decide +kernel
theorem d_X10_needArgument_6 : decode cX10_needArgument 6 = .ok (.getfield 338, 3) := by decide +kernel
theorem d_X10_needArgument_9 : decode cX10_needArgument 9 = .ok (.iconst 1, 1) := by decide +kernel
theorem d_X10_needArgument_10 : decode cX10_needArgument 10 = .ok (.iadd, 1) := by decide +kernel
theorem d_X10_needArgument_11 : decode cX10_needArgument 11 = .ok (.putfield 338, 3) := by decide +kernel
theorem d_X10_needArgument_14 : decode cX10_needArgument 14 = .ok (.new 348, 3) := by decide +kernel
theorem d_X10_needArgument_17 : decode cX10_needArgument 17 = .ok (.dup, 1) := by decide +kernel
theorem d_X10_needArgument_18 : decode cX10_needArgument 18 = .ok (.ldc_w 350, 3) := by decide +kernel
theorem d_X10_needArgument_21 : decode cX10_needArgument 21 = .ok (.invokespecial 352, 3) := by decide +kernel
theorem d_X10_needArgument_24 : decode cX10_needArgument 24 = .ok (.athrow, 1) := by decide +kernel
theorem d_X10_needArgument_25 : decode cX10_needArgument 25 = .ok (.return_, 1) := by decide +kernel
theorem ex_d2 : decode prog_18_method_2_code 0 = .ok (.aload_n 0, 1) ∧ decode prog_18_method_2_code 1 = .ok (.aload_n 1, 1) ∧ decode prog_18_method_2_code 2 = .ok (.invokespecial 7, 3) ∧ decode prog_18_method_2_code 5 = .ok (.return_, 1) := by decide +kernel
theorem ex_at2 : ∀ w ∈ (Bundle.ownAtomsX RX10 352 (enm 2) 7 prog_18_method_2_code exUp).filter vx_no, w ∈ FTW := ft_list _ (133 :: 706 :: 715 :: 718 :: 721 :: 723 :: 707 :: 708 :: 151 :: 152 :: 709 :: 714 :: 719 :: 739 :: 696 :: 740 :: 698 :: 741 :: 700 :: 710 :: 712 :: 702 :: 735 :: 736 :: 738 :: 702 :: 726 :: 727 :: 728 :: 729 :: 688 :: 729 :: 730 :: 731 :: 732 :: 690 :: 732 :: 733 :: 734 :: 735 :: 692 :: 725 :: 685 :: 686 :: 693 :: 694 :: 695 :: 697 :: 699 :: 701 :: 705 :: 704 :: 703 :: []) (by decide +kernel) (by decide +kernel)
theorem ex_kl2 : ∀ w ∈ [Cond.classLink RX10 348 (enm 2), Cond.initialized (enm 2)], w ∈ FTW := ft_list _ [684, 136] (by decide +kernel) (by decide +kernel)
def b_X10_needArgument_0 : List AT := [tx_il 1, tx_ifz r_ne 25, tx_al 0, tx_dup, tx_gi 10 17, tx_ic 1, tx_bin f_add, tx_pi 10 17, tx_thr 2]
def R_X10_needArgument (J : JT) (Q : QT) : Prop := (∀ ls st M, wpl J Q b_X10_needArgument_0 ls st M → J 0 ls st M) ∧ (∀ ls st M, wpl J Q [tx_rv] ls st M → J 25 ls st M)
theorem P_X10_needArgument {J : JT} {Q : QT} (R : R_X10_needArgument J Q) {as : List Vl} {M : Mem} (h : F_X10_needArgument as M Q) : (enL as).length ≤ 2 ∧ J 0 (padL 2 (enL as)) [] M := by
  unfold F_X10_needArgument at h
  split at h
  · obtain ⟨rfl, h1, h2⟩ := h
    exact ⟨Nat.le_of_ble_eq_true rfl, R.1 _ _ _ (br (fun g => R.2 _ _ _ (h1 g)) (fun g => an o0 (an o0 (h2 (Classical.not_not.mp g)))))⟩
  · exact h.elim
set_option maxRecDepth 100000 in
theorem L_X10_needArgument {p : Program} {l : Launch} {e : Env} {s : State} {m : MethodId} {args : Array Value} {below : List Frame} {meth : Method} {c : Code} {D : va_G} {ca : Nat → ClassId} {ad sx sy : Nat → Nat} {A : Nat → Prop} {Q : QT} (hl0 : l.stackTraces = false) (C0 : CX p s m args meth c cX10_needArgument 2 yX10_needArgument.cls D ca ad A) (hE : EX sx sy A s s.heap) (hr : meth.sig.returnType = none) (hno : ∀ x ∈ c.exceptionTable.toList, False) : R_X10_needArgument (JW p l e { frames := 10, cells := 1, slots := 6 * 1, locals := 200 } s m args below meth c 2 D ca ad A (vx_MQ below (Qn D ca ad A Q) (Qx D ca ad A Q) args s 1 (6 * 1) A) gz gz true) Q := ⟨s_iln C0 (d_X10_needArgument_0) hgz (s_zne C0 (d_X10_needArgument_1) (by decide) hgz hgz (fun _ _ _ h => h) (s_aln C0 (d_X10_needArgument_4) hgz (s_dup C0 (d_X10_needArgument_5) hgz (s_gi C0 (j := 17) (c0 := 10) rfl gX10 (by decide) rfl (by decide) wg410 (d_X10_needArgument_6) hgz (s_ic C0 (d_X10_needArgument_9) hgz (s_add C0 (d_X10_needArgument_10) hgz (s_pi C0 (j := 17) (c0 := 10) rfl gX10 tyX10_ok nmX10 (by decide) rfl (by decide) rfl rfl wg410 (d_X10_needArgument_11) hgz (s_thr C0 hE hl0 (Or.inr rfl) ex_fit.2.2 ex_fit.1 (ex_kl2 _ List.mem_cons_self) (ex_kl2 _ (List.mem_cons_of_mem _ List.mem_cons_self)) (si := 7) rfl ex_at2 ex_d2.1 ex_d2.2.1 ex_d2.2.2.1 ex_d2.2.2.2 d_X10_needArgument_14 d_X10_needArgument_17 d_X10_needArgument_18 d_X10_needArgument_21 d_X10_needArgument_24 hno (by decide) (by decide) (by decide) (by decide) (by decide) (by decide)))) (okn rfl)))))),
  s_rv C0 hr (d_X10_needArgument_25) ⟨by decide, by decide⟩⟩
theorem c_X10_needArgument (l : Launch) (hl0 : l.stackTraces = false) : Ctr l yX10_needArgument cX10_needArgument 2 none 10 200 1 (fun _ => F_X10_needArgument) := ctr_of (by decide) gz gz ⟨rfl, rfl⟩ (fun p e s m args below meth c D ca ad sx sy A Q as M C0 hE hr hno hF => P_X10_needArgument (L_X10_needArgument hl0 C0 hE hr hno) hF)
