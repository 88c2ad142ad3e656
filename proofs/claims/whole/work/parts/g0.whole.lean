def R_law : String := "WeighedHallLaw"
def lw_P (b : Addr) (xs : List Int32) (args : Array Value) (s : State) : Prop := args = #[.ref b] ∧ s.IntsAt b xs ∧ xs.length ≤ 3072 ∧ (Jvm.Cond.and given_1 narrow_1).before args s = true
def lw_Q (_ : Array Value) (s : State) (o : Outcome) (t : State) : Prop := o = .returned (some (.int 1)) ∧ Framed s o t [] 601024 7293033
def lw_Z (below : List Frame) (a : Array Value) (s : State) : State → Prop := fun t => ∃ o, t.status = .running ∧ Ended t below o ∧ lw_Q a s o t
/-- what holds at the law's entry: the machine, the code, the tables' words (any of lw_tbl by 'hts w (by decide +kernel)'), the script of L ints xs at the cell b, what the Statement gives of the start (any of its parts by flat_of_before) -/
def lw_At (p : Program) (s : State) (m : MethodId) (meth : Method) (c : Code) (b L : Nat) (xs : Nat → Int32) : Prop :=
  p.tables.exec = Jvm.exec ∧ c.code = code ∧ meth.sig.returnType = ret ∧ c.maxLocals = 7 ∧ s.vm.findClass R_law = some m.cls ∧ (∀ w ∈ lw_tbl, w.before #[Value.ref b] s = true) ∧ va_X b L xs s s.heap ∧ b < s.heap.size ∧ meth.locks = false ∧ (Jvm.Cond.and given_1 narrow_1).before #[Value.ref b] s = true ∧ ∀ x ∈ c.exceptionTable.toList, False
-- ===== YOUR PART BEGINS =====
theorem whole_start {p : Program} {e : Env} {s : State} {m : MethodId} {below : List Frame} {meth : Method} {c : Code} (l : Launch) (hl0 : l.stackTraces = false) {b L : Nat} {xs : Nat → Int32} (hL : L ≤ 3072) (C0 : lw_At p s m meth c b L xs) : W p l e room_1 s m #[Value.ref b] below meth c s.heap [] 0 0 (lw_Z below #[Value.ref b] s) (entryFrame m ([Value.ref b] : List Value).toArray 7) := by
  obtain ⟨hx, hb, hr, hml, hown, hts, hX, hbl, hlocks, hgv, hno⟩ := C0
  have hG : ∀ w ∈ GT, w.before #[Value.ref b] s = true := fun w hw => hts w (gt_lw hw)
  obtain ⟨D, ca, hK⟩ := st_K hG hts
  obtain ⟨sx, sy, hE⟩ := st_E (A := fun q : Nat => s.heap.size ≤ q) hts hgv (fun a ha => Nat.not_le.mpr ha)
  have hbA : ¬ (fun q : Nat => s.heap.size ≤ q) b := Nat.not_le.mpr hbl
  have C1 : CX p s m #[Value.ref b] meth c cL_law 7 yL_law.cls D ca (fun k => s.heap.size + k) (fun q : Nat => s.heap.size ≤ q) := ⟨hx, hb, hml, hown, hG, st_N hts, hK, fun i j _ _ h => Nat.add_left_cancel h, fun k _ => Nat.le_add_right _ _, fun q h => h, hlocks⟩
  have X0 : UX s (fun k => s.heap.size + k) [] 0 := ⟨fun k => rfl, by rw [cnt_f]; rfl, fun e he => (by cases he), st_AO hts⟩
  have key : LH p l e s m #[Value.ref b] below meth c D ca (fun k => s.heap.size + k) (fun q : Nat => s.heap.size ≤ q) (fun r _ => r = .inl (some (vI 1))) 0 23 [some (vO b), some (vR 0), some (vR 159), some (vR 336), some (vI 0), none, none] [] M0 :=
    law_loop (K := 513) (b := b) (L := L) (xs := xs) (J := fun k => LJ p l e s m #[Value.ref b] below meth c D ca (fun k => s.heap.size + k) (fun q : Nat => s.heap.size ≤ q) (fun r _ => r = .inl (some (vI 1))) k) (Hd := fun k => LH p l e s m #[Value.ref b] below meth c D ca (fun k => s.heap.size + k) (fun q : Nat => s.heap.size ≤ q) (fun r _ => r = .inl (some (vI 1))) k 23) (Q := fun r _ => r = .inl (some (vI 1)))
      (fun k hk => L_law hl0 (by omega) C1 hE hr hno hX hbl hbA (by omega)) (fun k hk => lb_23 hl0 (by omega) C1 hE hr hno hX hbl hbA (by omega))
      (fun k ls st M h => JW_le (by
        have e1 : stg 23 = 1 := rfl
        unfold gk gks gh ghs
        rw [e1]
        omega) h) (by omega) (by omega) (fun _ => rfl) (L + 1) 0 0 none none M0 s0 (by decide) (by omega) (by omega) cls0 mdl0
  have hJ : JU p l e room_1 s m #[Value.ref b] below meth c 7 D ca (fun k => s.heap.size + k) (fun q : Nat => s.heap.size ≤ q) (vx_MQ below (Qn D ca (fun k => s.heap.size + k) (fun q : Nat => s.heap.size ≤ q) (fun r _ => r = .inl (some (vI 1)))) (Qx D ca (fun k => s.heap.size + k) (fun q : Nat => s.heap.size ≤ q) (fun r _ => r = .inl (some (vI 1)))) #[Value.ref b] s 601024 7293033 (fun q : Nat => s.heap.size ≤ q)) [] 0 0 [some (vO b), none, none, none, none, none, none] [] [] := by
    refine law_pro C1 X0 (fun H locs lsA hz hP hS hl => ?_)
    have hcn : cnd 0 us_L = 337 := by decide +kernel
    have h1 := key H locs lsA rng0 (Nat.le_refl _) (fun z => nomatch z) (P_true hP) hS (fun v hv => by cases hv) (fun v hv => by
      rcases List.mem_cons.mp hv with q | hv
      · cases q; exact trivial
      rcases List.mem_cons.mp hv with q | hv
      · cases q; exact trivial
      rcases List.mem_cons.mp hv with q | hv
      · cases q; exact trivial
      rcases List.mem_cons.mp hv with q | hv
      · cases q; exact trivial
      rcases List.mem_cons.mp hv with q | hv
      · cases q; exact okn rfl
      rcases List.mem_cons.mp hv with q | hv
      · cases q
      rcases List.mem_cons.mp hv with q | hv
      · cases q
      cases hv) hl
    rw [hcn, slt337]
    exact h1
  rw [lg_entry_eq]
  have hl := entry_lvA (ad := fun k => s.heap.size + k) (as := [vO b]) (nl := 7) (Nat.le_of_ble_eq_true rfl)
  have h0 := hJ s.heap [] _ rfl (fun k q hk => by
    have h := (mk_some hk).1
    have e : cnt false (um (([] : UL) ++ [])) = 0 := by rw [cnt_f]; rfl
    rw [e] at h
    exact absurd h (Nat.not_lt_zero _)) va_S.rf hl
  intro T hT X
  obtain ⟨t, st, o, b1, b2, b3⟩ := h0 T hT X
  refine ⟨t, st, o, b1, b2, ?_⟩
  rcases b3 with ⟨⟨⟨r, M, ho, hr1, -⟩, -⟩, L1, hF, hfree⟩ | ⟨q, -, E, ce, L1, ⟨⟨n, M, -, -, hq, -⟩, -⟩, -⟩
  · cases hr1
    refine ⟨ho, ⟨_, ho⟩, hF.2.1, hF.2.2.weaken (fun y hy hlt => absurd hlt (Nat.not_lt.mpr (hfree y hy))) (Nat.le_refl _) (Nat.le_refl _)⟩
  · cases hq
-- ===== YOUR PART ENDS =====
set_option maxHeartbeats 4000000 in
theorem lw_walk (l : Launch) (hl0 : l.stackTraces = false) (b : Addr) (xs : List Int32) : MetFree l x (headSpec (Jvm.Cond.code x code maxLocals ret :: tables_1) room_1) (lw_P b xs) (fun _ _ _ _ _ => True) lw_Q := by
  refine MetFree.of_bodyS (code := code) (maxLocals := maxLocals) (ret := ret) (by decide) ?_ ?_
  · intro args s m h hn
    obtain ⟨meth, c, h1, h2, h3, h4, h5, h6, -, -⟩ := Cond.code_spec hn (atoms_spec (ws := Jvm.Cond.code x code maxLocals ret :: tables_1) h _ List.mem_cons_self)
    exact ⟨meth, c, h1, h2, h3, h4, h5, h6⟩
  · intro p e s m args below meth c s₁ B hml0 hP _
    obtain ⟨rfl, hx, hbd, hgv⟩ := hP
    obtain ⟨scr, harrAt, hlist, hof, hsmall⟩ := hx
    obtain ⟨hcb, hkn, -, -⟩ := State.arrayAt?_spec harrAt
    have hown : s.vm.findClass R_law = some m.cls := findClass_of_methodNamed B.named
    have hts0 : ∀ c ∈ (Jvm.Cond.code x code maxLocals ret :: tables_1), c.before #[Value.ref b] s = true := atoms_spec (ws := Jvm.Cond.code x code maxLocals ret :: tables_1) B.pre
    have hts : ∀ w ∈ lw_tbl, w.before #[Value.ref b] s = true := k2_hts_sels lw_privs (fun w hw => hts0 w (List.mem_cons_of_mem _ hw)) lw_privs_ok
    have hml : c.maxLocals = 7 := B.maxLocals_eq (hts0 _ List.mem_cons_self)
    have X₀ : Stand p l e room_1 s m #[Value.ref b] below meth c s₁ [] 0 0 := Stand.of_body B
    have hh0 : s₁.heap = s.heap := by rw [B.state]; rfl
    have hsz : scr.slots.size = xs.length := by rw [← Array.length_toList, hlist, List.length_map]
    have hval : ∀ j : Nat, j < xs.length → scr.slots[j]? = some (.int (xs.getD j 0)) := fun j hj => by
      rw [← Array.getElem?_toList, hlist]
      simp [hj]
    have hbl : b < s.heap.size := (Array.getElem?_eq_some_iff.mp hcb).1
    have hX : va_X b xs.length (fun j => xs.getD j 0) s s.heap := ⟨scr, hcb, hof, hkn, hsz, hval⟩
    have hno : ∀ x ∈ c.exceptionTable.toList, False := by
      obtain ⟨meth9, c9, h1, h2, -, -, -, -, h7, -⟩ := Cond.code_spec B.named (hts0 _ List.mem_cons_self)
      cases Option.some.inj (h1.symm.trans B.method)
      cases Option.some.inj (h2.symm.trans (Stand.of_body B).code)
      intro x hx
      rw [Array.isEmpty_iff.mp h7] at hx
      cases hx
    have K : W p l e room_1 s m #[Value.ref b] below meth c s₁.heap [] 0 0 (lw_Z below #[Value.ref b] s) (entryFrame m ([Value.ref b] : List Value).toArray 7) := by
      rw [hh0]
      exact whole_start l hl0 hbd ⟨B.exec, B.bytes, B.returns, hml, hown, hts, hX, hbl, B.notSynchronized, hgv, hno⟩
    obtain ⟨t, a1, o, b1, b2, b3⟩ := K s₁ rfl X₀
    exact ⟨t, o, a1, b1, b2, b3⟩
theorem lw_pre_spec {args : Array Value} {s : State} (h : (Jvm.Cond.and given_1 narrow_1).before args s = true) (hr : rest_1_c.before args s = true) : ∃ (b : Addr) (xs : List Int32), lw_P b xs args s := by
  have hs := flat_of_before _ h
  have hq := flat_of_before _ hr
  have hc : (Cond.count 1).before args s = true := hs _ (by decide +kernel)
  have harr : (Cond.arrayOf (.arg 0) .int).before args s = true := hs _ (by decide +kernel)
  have hle : (Cond.le (.length (.arg 0)) (.int 3072)).before args s = true := hs _ (by decide +kernel)
  have hlen : (Cond.isInt (.length (.arg 0))).before args s = true := hq _ (by decide +kernel)
  have hall : (Cond.all (.arg 0) (.isInt (.elem (.arg 0) (.index 0)))).before args s = true := hq _ (by decide +kernel)
  obtain ⟨b, xs, hb, hx⟩ := State.ints_of_pre rfl harr hlen hall
  have hsm : xs.length < 2 ^ 31 := hx.choose_spec.2.2.2
  have hev : (Term.length (.arg 0)).eval args s none [] s = some (.int xs.length.toInt32) := hx.length_eval hb
  have hv := Cond.le_ints hev (show (Term.int 3072).eval args s none [] s = some (.int 3072) from rfl)
  have hd : xs.length.toInt32 ≤ 3072 := by
    simpa [Cond.before, Cond.holds, hv] using hle
  have hN : xs.length ≤ 3072 := (Int32.ofNat_le_ofNat hsm (by decide)).mp (show Int32.ofNat xs.length ≤ Int32.ofNat 3072 from hd)
  exact ⟨b, xs, Cond.one_arg hc (show args[0]? = some (.ref b) from hb), hx, hN, h⟩
theorem lw_comes (l : Launch) (hl0 : l.stackTraces = false) : Comes l x (Jvm.Cond.code x code maxLocals ret :: tables_1) room_1 (fun tb e args s => Calls_1 tb e args s ∧ rest_1 tb e args s ∧ Pre_1 tb e args s)
    (fun _ _ args s o t => lw_Q args s o t) := by
  intro p e ha hc hk s m args below hf hfit hheap happ hpre
  obtain ⟨b, xs, hP⟩ := lw_pre_spec hpre.2.2 hpre.2.1
  obtain ⟨k, o, h1, h2, h3, hQ⟩ := lw_walk l hl0 b xs p e ha hc hk s m args below hf ((Spec.applies_iff_loose hf).mp happ).1 hP trivial
  exact ⟨k, o, h1, h2, h3, hQ⟩
theorem lw_frame {s t : State} {o : Outcome} {args : Array Value} (h : Framed s o t [] 601024 7293033) :
    Framed s o t (fieldLocs frame_1_writes args s ++ arrayLocs frame_1_arrays args s ++ staticLocs frame_1_statics s) 601024 7293033 := h
theorem lw_limb (L : Cond) (hL : ∀ (args : Array Value) (s t : State), L.after args s (.returned (some (.int 1))) t = true) :
    ArmFor flags0 classFile x code maxLocals ret World_1 tables_1 room_1 Calls_1 rest_1 Pre_1
      (fun tb e a s o t => postC L tb e a s o t ∧ Framed s o t (fieldLocs frame_1_writes a s ++ arrayLocs frame_1_arrays a s ++ staticLocs frame_1_statics s) 601024 7293033) := by
  intro l hfl _ _ p e ha hc hk s m args below hf hfit hheap happ hpre
  obtain ⟨k, o, h1, h2, h3, rfl, hF⟩ := lw_comes l (by unfold Launch.stackTraces; rw [hfl]; decide) p e ha hc hk s m args below hf hfit hheap happ hpre
  exact ⟨k, _, h1, h2, h3, hL args s _, lw_frame hF⟩
theorem i_vc : Claimed_1_1 ∧ Claimed_1_2 := ⟨lw_limb limb_1_1 (fun args s t => by simp [limb_1_1, Cond.after, Cond.holds, Cond.value]), lw_limb limb_1_2 (fun args s t => Cond.after_iff.mpr (by
  first | (rw [show limb_1_2 = Cond.eq .result (.int 1) from rfl, Cond.eq_ints (x := 1) (y := 1) rfl rfl]; simp; done) | (simp [limb_1_2, Cond.value, Term.eval]; done)))⟩
