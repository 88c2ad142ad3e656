--BLTRUE
section Multi
variable {p : Program} {l : Launch} {e : Env} {R : Room} {s : State} {m : MethodId} {args : Array Value} {below : List Frame} {meth : Method} {c : Code} {cc : ByteArray} {nL : Nat} {own : String} {D : va_G} {ca : Nat → ClassId} {ad : Nat → Nat} {A : Nat → Prop} {Qf : State → Prop} {gc gs : Nat → Nat} {bl : Bool}
variable {J : JT} {Q : QT} {k : Kt} {pc nx : Nat}
variable {us : UL} {d : Nat} {ls : Ls} {st : St} {loc : UL}
theorem outer_arr (cA : ClassId) (N h0 : Nat) : ∀ i, Jvm.Free.Multi.outerC cA N h0 i = arrV cA N (fun j => if j < i then .ref (h0 + 1 + j) else .null)
  | 0 => by
    show ({ cls := cA, slots := Array.replicate N .null, vm := .none } : Cell) = _
    rw [arrV_new]
    congr 1
  | i + 1 => by
    show (Jvm.Free.Multi.outerC cA N h0 i).setSlot i (.ref (h0 + 1 + i)) = _
    rw [outer_arr cA N h0 i, arrV_store]
    congr 1
    funext j
    unfold updV
    by_cases q : j = i
    · subst q
      rw [if_pos rfl, if_pos (by omega)]
    · rw [if_neg q]
      show (if j < i then Value.ref (h0 + 1 + j) else Value.null) = _
      by_cases z : j < i
      · rw [if_pos z, if_pos (by omega)]
      · rw [if_neg z, if_neg (by omega)]
/-- the cells of a grid, as the picture has them -/
theorem grid_P (X0 : UX s ad us d) {n a b : Nat} (hn : cnd d loc = n) (h7 : n + a < 337) (hsh : (SH n).1 = 5 ∧ (SH n).2.1 = a ∧ (SH n).2.2.1 = n + 1 ∧ (SH n).2.2.2 = 1) (hin : ∀ i, i < a → (SH (n + 1 + i)).1 = 1 ∧ (SH (n + 1 + i)).2.1 = b) (hoff : ∀ i, i < a + 1 → offs (n + i) loc = true) (hdn : d ≤ n)
    {H H1 : Heap} (hz : H.size = ad n) (hP : va_P D vwCl (mk false ca ad (um (loc ++ us))) H) (o1 : ∀ q, q < H.size → H1[q]? = H[q]?) (e0 : H1[H.size]? = some (arrV (ca 5) a (fun j => if j < a then .ref (H.size + 1 + j) else .null))) (e1 : ∀ i, i < a → H1[H.size + 1 + i]? = some (arrV (ca 1) b (fun _ => .int 0))) :
    va_P D vwCl (mk false ca ad (um (((337, 0, ((n + 1 + a : Nat) : Int)) :: (rowL n a ++ loc)) ++ us))) H1 := by
  have hc : cnt false (um (loc ++ us)) = n := (u_cnt X0).trans hn
  have hM : ∀ k, k < 337 → um (((337, 0, ((n + 1 + a : Nat) : Int)) :: (rowL n a ++ loc)) ++ us) k = um (rowL n a ++ (loc ++ us)) k := by
    intro k hk
    rw [← List.append_assoc]
    exact um_same (L := [(337, 0, ((n + 1 + a : Nat) : Int))]) (us := (rowL n a ++ loc) ++ us) (fun e he => by
      have : e = (337, 0, ((n + 1 + a : Nat) : Int)) := by simpa using he
      rw [this]
      show 337 ≠ k
      omega)
  intro k q hk
  obtain ⟨hk1, rfl⟩ := mk_some hk
  have hcn : cnt false (um (((337, 0, ((n + 1 + a : Nat) : Int)) :: (rowL n a ++ loc)) ++ us)) = n + 1 + a := (u_cnt X0).trans rfl
  rw [hcn] at hk1
  have elM : el false ca ad (um (((337, 0, ((n + 1 + a : Nat) : Int)) :: (rowL n a ++ loc)) ++ us)) k = el false ca ad (um (rowL n a ++ (loc ++ us))) k := by
    unfold el
    rw [hM k (by omega)]
  rw [elM]
  rcases Nat.lt_trichotomy k n with hkn | hkn | hkn
  · have e9 : el false ca ad (um (rowL n a ++ (loc ++ us))) k = el false ca ad (um (loc ++ us)) k := by
      unfold el
      rw [um_same (row_ne (by omega))]
    rw [e9]
    have h9 := hP k _ (mk_at (by rw [hc]; exact hkn))
    exact h9.kept (o1 _ h9.lt)
  · subst hkn
    rw [el_af hsh.1 (by decide), hsh.2.1, hsh.2.2.1, hsh.2.2.2]
    show H1[ad k]? = some (vp_cell _ _)
    rw [← hz, e0, vp_cell_q]
    congr 1
    unfold arrV
    congr 2
    funext j
    show (if j.val < a then Value.ref (H.size + 1 + j.val) else Value.null) = va_rf (if um (rowL k a ++ (loc ++ us)) k j.val = 0 then none else some (ad (k + 1 + 1 * j.val)))
    rw [if_pos j.isLt, row_at j.isLt, if_neg (by decide), Nat.one_mul, show k + 1 + j.val = k + (1 + j.val) by omega, ad_add X0]
    show _ = Value.ref _
    rw [hz, Nat.add_assoc]
  · obtain ⟨i, rfl⟩ : ∃ i, k = n + 1 + i := ⟨k - (n + 1), by omega⟩
    have hia : i < a := by omega
    rw [el_i (hin i hia).1 (by decide) (by decide), (hin i hia).2]
    show H1[ad (n + 1 + i)]? = some (vp_cell _ _)
    have ea : ad (n + 1 + i) = H.size + 1 + i := by
      rw [show n + 1 + i = n + (1 + i) by omega, ad_add X0, hz]
      omega
    rw [ea, e1 i hia]
    have ef : (fun j => Int32.ofInt (um (rowL n a ++ (loc ++ us)) (n + 1 + i) j)) = fun _ => (0 : Int32) := by
      funext j
      rw [um_same (row_ne (by omega)), show n + 1 + i = n + (1 + i) by omega, u_zero X0 (hoff (1 + i) (by omega)) (by omega) (by omega) j]
      rfl
    rw [ef]
    rfl
theorem slt_row {n b : Nat} : ∀ a, (∀ i, i < a → (SH (n + i)).1 = 1 ∧ (SH (n + i)).2.1 = b) → slt (n + a) = slt n + a * b
  | 0, _ => by simp
  | a + 1, h => by
    have ih := slt_row a (fun i hi => h i (by omega))
    show slt (n + a) + szc (n + a) = _
    rw [ih, szc_arr (h a (by omega)) (by decide), Nat.succ_mul]
    omega
theorem u_multi2 (C0 : CX p s m args meth c cc nL own D ca ad A) (X0 : UX s ad us d) {n a b idx : Nat} (hn : cnd d loc = n) (h7 : n + a < 337) (hsh : (SH n).1 = 5 ∧ (SH n).2.1 = a ∧ (SH n).2.2.1 = n + 1 ∧ (SH n).2.2.2 = 1) (hin : ∀ i, i < a → (SH (n + 1 + i)).1 = 1 ∧ (SH (n + 1 + i)).2.1 = b) (hoff : ∀ i, i < a + 1 → offs (n + i) loc = true) (hdn : d ≤ n) (ha : a < 1000 ∧ b < 1000)
    (hlk : Cond.classLink own idx "[[I" ∈ GT) (harr : Cond.arrayClass .int ∈ GT) (hR : n - d + (1 + a) ≤ R.cells ∧ slt n - slt d + (a + a * b) ≤ R.slots) (hd : decode cc pc = .ok (.multianewarray idx 2, 4)) {ia ib : Int} (hia : (a : Int) = ia) (hib : (b : Int) = ib)
    (h : JU p l e R s m args below meth c nL D ca ad A Qf us d (pc + 4) ls (vR n :: st) ((337, 0, ((n + 1 + a : Nat) : Int)) :: (rowL n a ++ loc))) : JU p l e R s m args below meth c nL D ca ad A Qf us d pc ls (vI ib :: vI ia :: st) loc := by
  subst hia
  subst hib
  intro H locs lsA hz hP hS hl
  rw [hn] at hz ⊢
  intro T hT X
  have ea : (Int32.ofInt (a : Int)).toNatClampNeg = a := cl_nat (by omega)
  have eb : (Int32.ofInt (b : Int)).toNatClampNeg = b := cl_nat (by omega)
  have hb8 : a * b ≤ 1000 * 1000 := Nat.mul_le_mul (by omega) (by omega)
  obtain ⟨vm₁, cA, comp, hW, f1, f2, -, -, X', stp⟩ := X.multianewarray2K C0.1 (own := own) (index := idx) (ty := .int) C0.2.2.2.1 (C0.2.2.2.2.1 _ hlk) X0.2.2.2.2.2.1 (C0.2.2.2.2.1 _ harr) (g := F0 m pc lsA (.int (Int32.ofInt (b : Int)) :: .int (Int32.ofInt (a : Int)) :: st.map (vv ad))) rfl (by rw [C0.2.1]; exact hd) rfl (nng_of ⟨by omega, by omega⟩ (by omega)) (nng_of ⟨by omega, by omega⟩ (by omega)) (by rw [ea]; omega) (by rw [eb]; show b * 4 ≤ _; omega) (by rw [eb]; omega) rfl rfl (by rw [ea]; exact hR.1) (by rw [ea, eb]; exact hR.2)
  rw [ea, eb] at X' stp
  have ecA : cA = ca 5 := Option.some.inj (f1.symm.trans (C0.2.2.2.2.2.2.1.2 4 _ rfl).2)
  have ecI : comp = ca 1 := Option.some.inj (f2.symm.trans (C0.2.2.2.2.2.2.1.2 0 _ rfl).2)
  subst ecA
  subst ecI
  have g1 := Jvm.Free.Multi.fill_facts (T.setVm vm₁) (ca 5) (ca 1) a b (defaultValue .int) a
  have hTz : (T.setVm vm₁).heap = H := hT
  have hTz2 : T.heap.size = H.size := by rw [hT]
  have hA0 := C0.2.2.2.2.2.2.2.2.1 n (by omega)
  have hPn := grid_P (D := D) (ca := ca) (H1 := (Jvm.Free.Multi.fill (T.setVm vm₁) (ca 5) (ca 1) a b (defaultValue .int) a).heap) X0 hn h7 hsh hin hoff hdn hz hP
    (fun q hq => by rw [Jvm.Free.Multi.fill_old (T.setVm vm₁) _ _ _ _ _ (by rw [hTz]; exact hq), hTz])
    (by have := g1.2.1; rw [hTz, outer_arr] at this; exact this)
    (fun i hi => by have := Jvm.Free.Multi.fill_inner (T.setVm vm₁) (ca 5) (ca 1) a b (defaultValue .int) a i hi; rw [hTz] at this; rw [this]; show some ({ cls := ca 1, slots := Array.replicate b (.int 0), vm := .none } : Cell) = _; rw [arrV_new])
  have hcn : cnd d ((337, 0, ((n + 1 + a : Nat) : Int)) :: (rowL n a ++ loc)) = n + 1 + a := rfl
  have key := h _ (locs ++ (List.range a).map fun j => ⟨T.heap.size, j⟩) lsA (by
    rw [hcn, g1.1, hTz, hz, show n + 1 + a = n + (1 + a) by omega, ad_add X0]
    omega) hPn ⟨by rw [g1.1, hTz]; have := hS.1; omega, fun q h1 h2 => by
      have hq : q < H.size := Nat.lt_of_lt_of_le h1 hS.1
      rw [Jvm.Free.Multi.fill_old (T.setVm vm₁) _ _ _ _ _ (by rw [hTz]; exact hq), hTz]
      exact hS.2.1 q h1 h2, fun x hx => by
      rcases List.mem_append.mp hx with q | q
      · exact hS.2.2 x q
      · obtain ⟨i, -, rfl⟩ := List.mem_map.mp q
        show A T.heap.size
        rw [hTz2, hz]
        exact hA0⟩ hl
  have hs1 : slt (n + 1 + a) = slt (n + 1) + a * b := slt_row (n := n + 1) a hin
  have hs0 : slt (n + 1) = slt n + a := by
    show slt n + szc n = _
    rw [szc_arr ⟨hsh.1, hsh.2.1⟩ (by decide)]
  have hm := slt_mono hdn
  rw [hcn, show n + 1 + a - d = n - d + 1 + a by omega, show slt (n + 1 + a) - slt d = slt n - slt d + a + a * b by omega] at key
  obtain ⟨t2, a1, b1⟩ := key _ rfl X'
  rw [hTz2, hz] at stp
  exact ⟨t2, stp t2 a1, b1⟩
end Multi
