section Rules3
variable {p : Program} {l : Launch} {e : Env} {R : Room} {s : State} {m : MethodId} {args : Array Value} {below : List Frame} {meth : Method} {c : Code} {cc : ByteArray} {nL : Nat} {own : String} {D : va_G} {ca : Nat → ClassId} {ad : Nat → Nat} {A : Nat → Prop} {Qf : State → Prop} {gc gs : Nat → Nat} {bl : Bool}
variable {J : JT} {Q : QT} {k : Kt} {pc nx : Nat}
theorem s_ifzg (C0 : CX p s m args meth c cc nL own D ca ad A) {r : Int → Int → Prop} {tgt : Nat} (hg : gc pc ≤ gc (pc + 3) ∧ gs pc ≤ gs (pc + 3)) (hg2 : gc pc ≤ gc (tgt) ∧ gs pc ≤ gs (tgt))
    (hrow : ∀ (H : Heap) (locs : List Loc) (lsA : Array Slot) (rest : List Value) (x : Int), okI x → (r x 0 → W p l e R s m args below meth c H locs (gc pc) (gs pc) Qf (F0 m tgt lsA rest)) → (¬ r x 0 → W p l e R s m args below meth c H locs (gc pc) (gs pc) Qf (F0 m (pc + 3) lsA rest)) → W p l e R s m args below meth c H locs (gc pc) (gs pc) Qf (F0 m pc lsA (.int (Int32.ofInt x) :: rest)))
    (hj : ∀ ls st M, J (tgt) ls st M → JW p l e R s m args below meth c nL D ca ad A Qf gc gs bl (tgt) ls st M) (hk : ∀ ls st M, k ls st M → JW p l e R s m args below meth c nL D ca ad A Qf gc gs bl (pc + 3) ls st M) : ∀ ls st M, tx_ifz r tgt J Q k ls st M → JW p l e R s m args below meth c nL D ca ad A Qf gc gs bl pc ls st M := by
  intro ls st M h H locs lsA hR hc hz hP hS ho hol hl
  unfold tx_ifz at h
  split at h
  · rename_i x st
    exact hrow H locs lsA (st.map (vv ad)) x (okh ho) (fun q => W.widen hg2.1 hg2.2 (hj _ _ _ (h.1 q) H locs lsA hR hc hz hP hS (okt ho) hol hl)) (fun q => W.widen hg.1 hg.2 (hk _ _ _ (h.2 q) H locs lsA hR hc hz hP hS (okt ho) hol hl))
  · exact h.elim
theorem s_ceq (C0 : CX p s m args meth c cc nL own D ca ad A) {off : Int} {tgt : Nat} (hd : decode cc pc = .ok (.if_icmp .eq off, 3)) (ht : (pc : Int) + off = (tgt : Int)) (hg : gc pc ≤ gc (pc + 3) ∧ gs pc ≤ gs (pc + 3)) (hg2 : gc pc ≤ gc (tgt) ∧ gs pc ≤ gs (tgt)) (hj : ∀ ls st M, J (tgt) ls st M → JW p l e R s m args below meth c nL D ca ad A Qf gc gs bl (tgt) ls st M) (hk : ∀ ls st M, k ls st M → JW p l e R s m args below meth c nL D ca ad A Qf gc gs bl (pc + 3) ls st M) : ∀ ls st M, tx_cmp r_eq tgt J Q k ls st M → JW p l e R s m args below meth c nL D ca ad A Qf gc gs bl pc ls st M :=
  s_cmpg C0 hg hg2 (fun H locs lsA rest x y hx hy h1 h2 => lv_icmp_eq C0.1 C0.2.1 hd ht (fun q => h1 ((of_inj hx hy).mp q)) (fun q => h2 (fun z => q ((of_inj hx hy).mpr z)))) hj hk
theorem s_zeq (C0 : CX p s m args meth c cc nL own D ca ad A) {off : Int} {tgt : Nat} (hd : decode cc pc = .ok (.ifCond .eq off, 3)) (ht : (pc : Int) + off = (tgt : Int)) (hg : gc pc ≤ gc (pc + 3) ∧ gs pc ≤ gs (pc + 3)) (hg2 : gc pc ≤ gc (tgt) ∧ gs pc ≤ gs (tgt)) (hj : ∀ ls st M, J (tgt) ls st M → JW p l e R s m args below meth c nL D ca ad A Qf gc gs bl (tgt) ls st M) (hk : ∀ ls st M, k ls st M → JW p l e R s m args below meth c nL D ca ad A Qf gc gs bl (pc + 3) ls st M) : ∀ ls st M, tx_ifz r_eq tgt J Q k ls st M → JW p l e R s m args below meth c nL D ca ad A Qf gc gs bl pc ls st M :=
  s_ifzg C0 hg hg2 (fun H locs lsA rest x hx h1 h2 => lv_if_eq C0.1 C0.2.1 hd ht (fun q => h1 ((of_inj hx okI_0).mp q)) (fun q => h2 (fun z => q ((of_inj hx okI_0).mpr z)))) hj hk
theorem s_cne (C0 : CX p s m args meth c cc nL own D ca ad A) {off : Int} {tgt : Nat} (hd : decode cc pc = .ok (.if_icmp .ne off, 3)) (ht : (pc : Int) + off = (tgt : Int)) (hg : gc pc ≤ gc (pc + 3) ∧ gs pc ≤ gs (pc + 3)) (hg2 : gc pc ≤ gc (tgt) ∧ gs pc ≤ gs (tgt)) (hj : ∀ ls st M, J (tgt) ls st M → JW p l e R s m args below meth c nL D ca ad A Qf gc gs bl (tgt) ls st M) (hk : ∀ ls st M, k ls st M → JW p l e R s m args below meth c nL D ca ad A Qf gc gs bl (pc + 3) ls st M) : ∀ ls st M, tx_cmp r_ne tgt J Q k ls st M → JW p l e R s m args below meth c nL D ca ad A Qf gc gs bl pc ls st M :=
  s_cmpg C0 hg hg2 (fun H locs lsA rest x y hx hy h1 h2 => lv_icmp_ne C0.1 C0.2.1 hd ht (fun q => h1 (fun z => q ((of_inj hx hy).mpr z))) (fun q => h2 (fun z => z ((of_inj hx hy).mp q)))) hj hk
theorem s_zne (C0 : CX p s m args meth c cc nL own D ca ad A) {off : Int} {tgt : Nat} (hd : decode cc pc = .ok (.ifCond .ne off, 3)) (ht : (pc : Int) + off = (tgt : Int)) (hg : gc pc ≤ gc (pc + 3) ∧ gs pc ≤ gs (pc + 3)) (hg2 : gc pc ≤ gc (tgt) ∧ gs pc ≤ gs (tgt)) (hj : ∀ ls st M, J (tgt) ls st M → JW p l e R s m args below meth c nL D ca ad A Qf gc gs bl (tgt) ls st M) (hk : ∀ ls st M, k ls st M → JW p l e R s m args below meth c nL D ca ad A Qf gc gs bl (pc + 3) ls st M) : ∀ ls st M, tx_ifz r_ne tgt J Q k ls st M → JW p l e R s m args below meth c nL D ca ad A Qf gc gs bl pc ls st M :=
  s_ifzg C0 hg hg2 (fun H locs lsA rest x hx h1 h2 => lv_if_ne C0.1 C0.2.1 hd ht (fun q => h1 (fun z => q ((of_inj hx okI_0).mpr z))) (fun q => h2 (fun z => z ((of_inj hx okI_0).mp q)))) hj hk
theorem s_cge (C0 : CX p s m args meth c cc nL own D ca ad A) {off : Int} {tgt : Nat} (hd : decode cc pc = .ok (.if_icmp .ge off, 3)) (ht : (pc : Int) + off = (tgt : Int)) (hg : gc pc ≤ gc (pc + 3) ∧ gs pc ≤ gs (pc + 3)) (hg2 : gc pc ≤ gc (tgt) ∧ gs pc ≤ gs (tgt)) (hj : ∀ ls st M, J (tgt) ls st M → JW p l e R s m args below meth c nL D ca ad A Qf gc gs bl (tgt) ls st M) (hk : ∀ ls st M, k ls st M → JW p l e R s m args below meth c nL D ca ad A Qf gc gs bl (pc + 3) ls st M) : ∀ ls st M, tx_cmp r_ge tgt J Q k ls st M → JW p l e R s m args below meth c nL D ca ad A Qf gc gs bl pc ls st M :=
  s_cmpg C0 hg hg2 (fun H locs lsA rest x y hx hy h1 h2 => lv_icmp_ge C0.1 C0.2.1 hd ht (fun q => h1 ((of_le hy hx).mp q)) (fun q => h2 (fun z => q ((of_le hy hx).mpr z)))) hj hk
theorem s_zge (C0 : CX p s m args meth c cc nL own D ca ad A) {off : Int} {tgt : Nat} (hd : decode cc pc = .ok (.ifCond .ge off, 3)) (ht : (pc : Int) + off = (tgt : Int)) (hg : gc pc ≤ gc (pc + 3) ∧ gs pc ≤ gs (pc + 3)) (hg2 : gc pc ≤ gc (tgt) ∧ gs pc ≤ gs (tgt)) (hj : ∀ ls st M, J (tgt) ls st M → JW p l e R s m args below meth c nL D ca ad A Qf gc gs bl (tgt) ls st M) (hk : ∀ ls st M, k ls st M → JW p l e R s m args below meth c nL D ca ad A Qf gc gs bl (pc + 3) ls st M) : ∀ ls st M, tx_ifz r_ge tgt J Q k ls st M → JW p l e R s m args below meth c nL D ca ad A Qf gc gs bl pc ls st M :=
  s_ifzg C0 hg hg2 (fun H locs lsA rest x hx h1 h2 => lv_if_ge C0.1 C0.2.1 hd ht (fun q => h1 ((of_le okI_0 hx).mp q)) (fun q => h2 (fun z => q ((of_le okI_0 hx).mpr z)))) hj hk
theorem s_cgt (C0 : CX p s m args meth c cc nL own D ca ad A) {off : Int} {tgt : Nat} (hd : decode cc pc = .ok (.if_icmp .gt off, 3)) (ht : (pc : Int) + off = (tgt : Int)) (hg : gc pc ≤ gc (pc + 3) ∧ gs pc ≤ gs (pc + 3)) (hg2 : gc pc ≤ gc (tgt) ∧ gs pc ≤ gs (tgt)) (hj : ∀ ls st M, J (tgt) ls st M → JW p l e R s m args below meth c nL D ca ad A Qf gc gs bl (tgt) ls st M) (hk : ∀ ls st M, k ls st M → JW p l e R s m args below meth c nL D ca ad A Qf gc gs bl (pc + 3) ls st M) : ∀ ls st M, tx_cmp r_gt tgt J Q k ls st M → JW p l e R s m args below meth c nL D ca ad A Qf gc gs bl pc ls st M :=
  s_cmpg C0 hg hg2 (fun H locs lsA rest x y hx hy h1 h2 => lv_icmp_gt C0.1 C0.2.1 hd ht (fun q => h1 ((of_lt hy hx).mp q)) (fun q => h2 (fun z => q ((of_lt hy hx).mpr z)))) hj hk
theorem s_zgt (C0 : CX p s m args meth c cc nL own D ca ad A) {off : Int} {tgt : Nat} (hd : decode cc pc = .ok (.ifCond .gt off, 3)) (ht : (pc : Int) + off = (tgt : Int)) (hg : gc pc ≤ gc (pc + 3) ∧ gs pc ≤ gs (pc + 3)) (hg2 : gc pc ≤ gc (tgt) ∧ gs pc ≤ gs (tgt)) (hj : ∀ ls st M, J (tgt) ls st M → JW p l e R s m args below meth c nL D ca ad A Qf gc gs bl (tgt) ls st M) (hk : ∀ ls st M, k ls st M → JW p l e R s m args below meth c nL D ca ad A Qf gc gs bl (pc + 3) ls st M) : ∀ ls st M, tx_ifz r_gt tgt J Q k ls st M → JW p l e R s m args below meth c nL D ca ad A Qf gc gs bl pc ls st M :=
  s_ifzg C0 hg hg2 (fun H locs lsA rest x hx h1 h2 => lv_if_gt C0.1 C0.2.1 hd ht (fun q => h1 ((of_lt okI_0 hx).mp q)) (fun q => h2 (fun z => q ((of_lt okI_0 hx).mpr z)))) hj hk
theorem s_cle (C0 : CX p s m args meth c cc nL own D ca ad A) {off : Int} {tgt : Nat} (hd : decode cc pc = .ok (.if_icmp .le off, 3)) (ht : (pc : Int) + off = (tgt : Int)) (hg : gc pc ≤ gc (pc + 3) ∧ gs pc ≤ gs (pc + 3)) (hg2 : gc pc ≤ gc (tgt) ∧ gs pc ≤ gs (tgt)) (hj : ∀ ls st M, J (tgt) ls st M → JW p l e R s m args below meth c nL D ca ad A Qf gc gs bl (tgt) ls st M) (hk : ∀ ls st M, k ls st M → JW p l e R s m args below meth c nL D ca ad A Qf gc gs bl (pc + 3) ls st M) : ∀ ls st M, tx_cmp r_le tgt J Q k ls st M → JW p l e R s m args below meth c nL D ca ad A Qf gc gs bl pc ls st M :=
  s_cmpg C0 hg hg2 (fun H locs lsA rest x y hx hy h1 h2 => lv_icmp_le C0.1 C0.2.1 hd ht (fun q => h1 ((of_le hx hy).mp q)) (fun q => h2 (fun z => q ((of_le hx hy).mpr z)))) hj hk
theorem s_zle (C0 : CX p s m args meth c cc nL own D ca ad A) {off : Int} {tgt : Nat} (hd : decode cc pc = .ok (.ifCond .le off, 3)) (ht : (pc : Int) + off = (tgt : Int)) (hg : gc pc ≤ gc (pc + 3) ∧ gs pc ≤ gs (pc + 3)) (hg2 : gc pc ≤ gc (tgt) ∧ gs pc ≤ gs (tgt)) (hj : ∀ ls st M, J (tgt) ls st M → JW p l e R s m args below meth c nL D ca ad A Qf gc gs bl (tgt) ls st M) (hk : ∀ ls st M, k ls st M → JW p l e R s m args below meth c nL D ca ad A Qf gc gs bl (pc + 3) ls st M) : ∀ ls st M, tx_ifz r_le tgt J Q k ls st M → JW p l e R s m args below meth c nL D ca ad A Qf gc gs bl pc ls st M :=
  s_ifzg C0 hg hg2 (fun H locs lsA rest x hx h1 h2 => lv_if_le C0.1 C0.2.1 hd ht (fun q => h1 ((of_le hx okI_0).mp q)) (fun q => h2 (fun z => q ((of_le hx okI_0).mpr z)))) hj hk
theorem s_zlt (C0 : CX p s m args meth c cc nL own D ca ad A) {off : Int} {tgt : Nat} (hd : decode cc pc = .ok (.ifCond .lt off, 3)) (ht : (pc : Int) + off = (tgt : Int)) (hg : gc pc ≤ gc (pc + 3) ∧ gs pc ≤ gs (pc + 3)) (hg2 : gc pc ≤ gc (tgt) ∧ gs pc ≤ gs (tgt)) (hj : ∀ ls st M, J (tgt) ls st M → JW p l e R s m args below meth c nL D ca ad A Qf gc gs bl (tgt) ls st M) (hk : ∀ ls st M, k ls st M → JW p l e R s m args below meth c nL D ca ad A Qf gc gs bl (pc + 3) ls st M) : ∀ ls st M, tx_ifz r_lt tgt J Q k ls st M → JW p l e R s m args below meth c nL D ca ad A Qf gc gs bl pc ls st M :=
  s_ifzg C0 hg hg2 (fun H locs lsA rest x hx h1 h2 => lv_if_lt C0.1 C0.2.1 hd ht (fun q => h1 ((of_lt hx okI_0).mp q)) (fun q => h2 (fun z => q ((of_lt hx okI_0).mpr z)))) hj hk
theorem s_goto (C0 : CX p s m args meth c cc nL own D ca ad A) {off : Int} {tgt : Nat} (hd : decode cc pc = .ok (.goto off, 3)) (ht : (pc : Int) + off = (tgt : Int)) (hg2 : gc pc ≤ gc (tgt) ∧ gs pc ≤ gs (tgt)) (hj : ∀ ls st M, J (tgt) ls st M → JW p l e R s m args below meth c nL D ca ad A Qf gc gs bl (tgt) ls st M) : ∀ ls st M, J tgt ls st M → JW p l e R s m args below meth c nL D ca ad A Qf gc gs bl pc ls st M := by
  intro ls st M h H locs lsA hR hc hz hP hS ho hol hl
  exact lv_goto C0.1 C0.2.1 hd ht (W.widen hg2.1 hg2.2 (hj _ _ _ h H locs lsA hR hc hz hP hS ho hol hl))
theorem swc_go {x : Int} {ls : Ls} {st : St} {M : Mem} : ∀ {cs : List (Int × Nat)} {d : Nat}, swc J x ls st M cs d → ∃ t, J t ls st M ∧ ((∃ v, (v, t) ∈ cs ∧ x = v ∧ (cs.find? (fun q => q.1 == x)) = some (v, t)) ∨ ((∀ q ∈ cs, q.1 ≠ x) ∧ t = d))
  | [], d, h => ⟨d, h, Or.inr ⟨fun q hq => (nomatch hq), rfl⟩⟩
  | (v, t) :: cs, d, h => by
    by_cases e : x = v
    · exact ⟨t, h.1 e, Or.inl ⟨v, List.mem_cons_self, e, by simp [List.find?, e]⟩⟩
    · obtain ⟨t', h1, h2⟩ := swc_go (h.2 e)
      refine ⟨t', h1, ?_⟩
      rcases h2 with ⟨v', m1, m2, m3⟩ | ⟨m1, m2⟩
      · refine Or.inl ⟨v', List.mem_cons_of_mem _ m1, m2, ?_⟩
        have : (v == x) = false := by simpa using fun q => e q.symm
        simp only [List.find?, this]
        exact m3
      · refine Or.inr ⟨fun q hq => ?_, m2⟩
        rcases List.mem_cons.mp hq with rfl | hq
        · exact fun q => e q.symm
        · exact m1 q hq
theorem s_tab (C0 : CX p s m args meth c cc nL own D ca ad A) {dflt lo hi : Int} {offs : Array Int} {len : Nat} {cs : List (Int × Nat)} {d : Nat} (hd : decode cc pc = .ok (.tableswitch dflt lo hi offs, len)) (hdf : (pc : Int) + dflt = (d : Int))
    (hcs : cs = (List.range offs.size).map (fun i : Nat => (lo + (i : Int), ((pc : Int) + offs.getD i 0).toNat))) (hpos : ∀ i : Nat, i < offs.size → 0 ≤ (pc : Int) + offs.getD i 0) (hsz : (offs.size : Int) = hi - lo + 1)
    (hgs : ∀ t, (t = d ∨ ∃ v, (v, t) ∈ cs) → gc pc ≤ gc t ∧ gs pc ≤ gs t) (hjs : ∀ t, (t = d ∨ ∃ v, (v, t) ∈ cs) → ∀ ls st M, J t ls st M → JW p l e R s m args below meth c nL D ca ad A Qf gc gs bl t ls st M) : ∀ ls st M, tx_sw cs d J Q k ls st M → JW p l e R s m args below meth c nL D ca ad A Qf gc gs bl pc ls st M := by
  intro ls st M h H locs lsA hR hc hz hP hS ho hol hl
  unfold tx_sw at h
  split at h
  · rename_i x st
    have hx : okI x := okh ho
    obtain ⟨t, h1, h2⟩ := swc_go h
    rcases h2 with ⟨v, m1, m2, -⟩ | ⟨m1, rfl⟩
    · subst m2
      have hin : t = d ∨ ∃ v, (v, t) ∈ cs := Or.inr ⟨x, m1⟩
      rw [hcs] at m1
      obtain ⟨i, hi1, hi2⟩ := List.mem_map.mp m1
      have hi1 := List.mem_range.mp hi1
      have e1 : lo + (i : Int) = x := congrArg Prod.fst hi2
      have e2 : ((pc : Int) + offs.getD i 0).toNat = t := congrArg Prod.snd hi2
      have hp := hpos i hi1
      refine lv_tableIn (x := Int32.ofInt x) (off := offs.getD i 0) (tgt := t) C0.1 C0.2.1 hd (by rw [to_ok hx]; omega) (by rw [to_ok hx]; omega) ?_ (by omega) (W.widen (hgs t hin).1 (hgs t hin).2 (hjs t hin _ _ _ h1 H locs lsA hR hc hz hP hS (okt ho) hol hl))
      rw [to_ok hx, show (x - lo).toNat = i by omega]
      simp [Array.getD, hi1]
    · refine lv_tableOut (x := Int32.ofInt x) (tgt := t) C0.1 C0.2.1 hd ?_ hdf (W.widen (hgs t (Or.inl rfl)).1 (hgs t (Or.inl rfl)).2 (hjs t (Or.inl rfl) _ _ _ h1 H locs lsA hR hc hz hP hS (okt ho) hol hl))
      rw [to_ok hx]
      by_cases h1 : x < lo
      · exact Or.inl h1
      · refine Or.inr ?_
        rcases Int.lt_or_le hi x with q | q
        · exact q
        · have hz2 : (x - lo).toNat < offs.size := by omega
          exact absurd (show lo + (((x - lo).toNat : Nat) : Int) = x by omega) (m1 (lo + (((x - lo).toNat : Nat) : Int), ((pc : Int) + offs.getD (x - lo).toNat 0).toNat) (by rw [hcs]; exact List.mem_map.mpr ⟨(x - lo).toNat, List.mem_range.mpr hz2, rfl⟩))
  · exact h.elim
theorem s_look (C0 : CX p s m args meth c cc nL own D ca ad A) {dflt : Int} {ps : Array (Int × Int)} {len : Nat} {cs : List (Int × Nat)} {d : Nat} (hd : decode cc pc = .ok (.lookupswitch dflt ps, len)) (hp : (ps.toList.zip (ps.toList.drop 1)).all (fun (a, next) => a.1 < next.1) = true)
    (ho2 : ∀ x : Int, ∀ t : Nat, ((cs.find? (fun q => q.1 == x)).map Prod.snd).getD d = t → (pc : Int) + Op.lookupswitch.offset ps.toList dflt x = (t : Int))
    (hgs : ∀ t, (t = d ∨ ∃ v, (v, t) ∈ cs) → gc pc ≤ gc t ∧ gs pc ≤ gs t) (hjs : ∀ t, (t = d ∨ ∃ v, (v, t) ∈ cs) → ∀ ls st M, J t ls st M → JW p l e R s m args below meth c nL D ca ad A Qf gc gs bl t ls st M) : ∀ ls st M, tx_sw cs d J Q k ls st M → JW p l e R s m args below meth c nL D ca ad A Qf gc gs bl pc ls st M := by
  intro ls st M h H locs lsA hR hc hz hP hS ho hol hl
  unfold tx_sw at h
  split at h
  · rename_i x st
    have hx : okI x := okh ho
    obtain ⟨t, h1, h2⟩ := swc_go h
    have key : (t = d ∨ ∃ v, (v, t) ∈ cs) ∧ ((cs.find? (fun q => q.1 == x)).map Prod.snd).getD d = t := by
      rcases h2 with ⟨v, m1, m2, m3⟩ | ⟨m1, rfl⟩
      · exact ⟨Or.inr ⟨v, m1⟩, by rw [m3]; rfl⟩
      · refine ⟨Or.inl rfl, ?_⟩
        rw [List.find?_eq_none.mpr (fun q hq => by simpa using m1 q hq)]
        rfl
    exact lv_lookup (x := Int32.ofInt x) (tgt := t) C0.1 C0.2.1 hd hp rfl (by rw [to_ok hx]; exact ho2 x t key.2) (W.widen (hgs t key.1).1 (hgs t key.1).2 (hjs t key.1 _ _ _ h1 H locs lsA hR hc hz hP hS (okt ho) hol hl))
  · exact h.elim
end Rules3
