--BLTRUE
/-! a row of grids, at the start's level -/
def cubL (n w m : Nat) : Nat → UL
  | 0 => []
  | i + 1 => rowL (n + 1 + i * w) m ++ cubL n w m i
theorem cub_ne {n w m k : Nat} : ∀ {i : Nat}, (∀ j, j < i → k ≠ n + 1 + j * w) → ∀ e ∈ cubL n w m i, e.1 ≠ k
  | 0, _, e, he => by cases he
  | i + 1, h, e, he => by
    rcases List.mem_append.mp he with q | q
    · exact row_ne (h i (Nat.lt_succ_self i)) e q
    · exact cub_ne (fun j hj => h j (by omega)) e q
theorem cub_at {n w m t : Nat} {us : UL} (ht : t < m) (hw : 0 < w) : ∀ {i j : Nat}, j < i → um (cubL n w m i ++ us) (n + 1 + j * w) t = 1
  | 0, j, h => by omega
  | i + 1, j, h => by
    show um ((rowL (n + 1 + i * w) m ++ cubL n w m i) ++ us) _ t = 1
    rw [List.append_assoc]
    rcases Nat.lt_or_ge j i with q | q
    · have hm : (j + 1) * w ≤ i * w := Nat.mul_le_mul_right _ q
      rw [Nat.succ_mul] at hm
      rw [um_same (row_ne (by omega))]
      exact cub_at ht hw q
    · have e : j = i := by omega
      subst e
      exact row_at ht
section Cube3
variable {p : Program} {l : Launch} {e : Env} {R : Room} {s : State} {m : MethodId} {args : Array Value} {below : List Frame} {meth : Method} {c : Code} {cc : ByteArray} {nL : Nat} {own : String} {D : va_G} {ca : Nat → ClassId} {ad : Nat → Nat} {A : Nat → Prop} {Qf : State → Prop} {gc gs : Nat → Nat} {bl : Bool}
variable {J : JT} {Q : QT} {k : Kt} {pc nx : Nat}
variable {us : UL} {d : Nat} {ls : Ls} {st : St} {loc : UL}
theorem cube_P (X0 : UX s ad us d) {n a b r : Nat} (hn : cnd d loc = n) (h7 : n + a * (1 + b) < 337) (hsh : (SH n).1 = 6 ∧ (SH n).2.1 = a ∧ (SH n).2.2.1 = n + 1 ∧ (SH n).2.2.2 = 1 + b)
    (hgr : ∀ j, j < a → (SH (n + 1 + j * (1 + b))).1 = 5 ∧ (SH (n + 1 + j * (1 + b))).2.1 = b ∧ (SH (n + 1 + j * (1 + b))).2.2.1 = n + 1 + j * (1 + b) + 1 ∧ (SH (n + 1 + j * (1 + b))).2.2.2 = 1)
    (hin : ∀ j, j < a → ∀ t, t < b → (SH (n + 1 + j * (1 + b) + 1 + t)).1 = 1 ∧ (SH (n + 1 + j * (1 + b) + 1 + t)).2.1 = r) (hoff : ∀ i, i < a * (1 + b) + 1 → offs (n + i) loc = true) (hdn : d ≤ n)
    {H H1 : Heap} (hz : H.size = ad n) (hP : va_P D vwCl (mk false ca ad (um (loc ++ us))) H) (o1 : ∀ q, q < H.size → H1[q]? = H[q]?) (e0 : H1[H.size]? = some (arrV (ca 6) a (fun j => if j < a then .ref (H.size + 1 + j * (1 + b)) else .null)))
    (e1 : ∀ j, j < a → H1[H.size + 1 + j * (1 + b)]? = some (arrV (ca 5) b (fun t => if t < b then .ref (H.size + 1 + j * (1 + b) + 1 + t) else .null)))
    (e2 : ∀ j, j < a → ∀ t, t < b → H1[H.size + 1 + j * (1 + b) + 1 + t]? = some (arrV (ca 1) r (fun _ => .int 0))) :
    va_P D vwCl (mk false ca ad (um (((337, 0, ((n + 1 + a * (1 + b) : Nat) : Int)) :: (rowL n a ++ (cubL n (1 + b) b a ++ loc))) ++ us))) H1 := by
  have hc : cnt false (um (loc ++ us)) = n := (u_cnt X0).trans hn
  have hM : ∀ k, k < 337 → um (((337, 0, ((n + 1 + a * (1 + b) : Nat) : Int)) :: (rowL n a ++ (cubL n (1 + b) b a ++ loc))) ++ us) k = um (rowL n a ++ (cubL n (1 + b) b a ++ (loc ++ us))) k := by
    intro k hk
    have e1 : rowL n a ++ (cubL n (1 + b) b a ++ (loc ++ us)) = (rowL n a ++ (cubL n (1 + b) b a ++ loc)) ++ us := by rw [List.append_assoc, List.append_assoc]
    rw [e1]
    exact um_same (L := [(337, 0, ((n + 1 + a * (1 + b) : Nat) : Int))]) (us := (rowL n a ++ (cubL n (1 + b) b a ++ loc)) ++ us) (fun e he => by
      have : e = (337, 0, ((n + 1 + a * (1 + b) : Nat) : Int)) := by simpa using he
      rw [this]
      show 337 ≠ k
      omega)
  intro k q hk
  obtain ⟨hk1, rfl⟩ := mk_some hk
  have hcn : cnt false (um (((337, 0, ((n + 1 + a * (1 + b) : Nat) : Int)) :: (rowL n a ++ (cubL n (1 + b) b a ++ loc))) ++ us)) = n + 1 + a * (1 + b) := (u_cnt X0).trans rfl
  rw [hcn] at hk1
  have elM : el false ca ad (um (((337, 0, ((n + 1 + a * (1 + b) : Nat) : Int)) :: (rowL n a ++ (cubL n (1 + b) b a ++ loc))) ++ us)) k = el false ca ad (um (rowL n a ++ (cubL n (1 + b) b a ++ (loc ++ us)))) k := by
    unfold el
    rw [hM k (by omega)]
  rw [elM]
  have hmj : ∀ j, j < a → j * (1 + b) + (1 + b) ≤ a * (1 + b) := by
    intro j hj
    have := Nat.mul_le_mul_right (1 + b) (show j + 1 ≤ a from hj)
    rw [Nat.succ_mul] at this
    exact this
  rcases Nat.lt_trichotomy k n with hkn | hkn | hkn
  · have e9 : el false ca ad (um (rowL n a ++ (cubL n (1 + b) b a ++ (loc ++ us)))) k = el false ca ad (um (loc ++ us)) k := by
      unfold el
      rw [um_same (row_ne (by omega)), um_same (cub_ne (fun j _ => by omega))]
    rw [e9]
    have h9 := hP k _ (mk_at (by rw [hc]; exact hkn))
    exact h9.kept (o1 _ h9.lt)
  · subst hkn
    rw [el_af hsh.1 (by decide), hsh.2.1, hsh.2.2.1, hsh.2.2.2]
    show H1[ad k]? = some (vp_cell _ _)
    rw [← hz, e0, vp_cell_q]
    congr 1
    unfold arrV
    congr 2
    funext j
    show (if j.val < a then Value.ref (H.size + 1 + j.val * (1 + b)) else Value.null) = va_rf (if um (rowL k a ++ (cubL k (1 + b) b a ++ (loc ++ us))) k j.val = 0 then none else some (ad (k + 1 + (1 + b) * j.val)))
    rw [if_pos j.isLt, row_at j.isLt, if_neg (by decide), Nat.mul_comm (1 + b) j.val, show k + 1 + j.val * (1 + b) = k + (1 + j.val * (1 + b)) by omega, ad_add X0]
    show _ = Value.ref _
    rw [hz, Nat.add_assoc]
  · obtain ⟨j, t, ht, hj, rfl⟩ : ∃ j t, t < 1 + b ∧ j < a ∧ k = n + 1 + j * (1 + b) + t := by
      refine ⟨(k - (n + 1)) / (1 + b), (k - (n + 1)) % (1 + b), Nat.mod_lt _ (by omega), ?_, ?_⟩
      · rw [Nat.div_lt_iff_lt_mul (by omega)]
        omega
      · have := Nat.div_add_mod (k - (n + 1)) (1 + b)
        rw [Nat.mul_comm] at this
        omega
    have hmj1 := hmj j hj
    have hne : ∀ z, n + 1 + j * (1 + b) + z ≠ n := by intro z; omega
    rcases Nat.eq_zero_or_pos t with t0 | t0
    · subst t0
      rw [Nat.add_zero, el_af (hgr j hj).1 (by decide), (hgr j hj).2.1, (hgr j hj).2.2.1, (hgr j hj).2.2.2]
      show H1[ad (n + 1 + j * (1 + b))]? = some (vp_cell _ _)
      have ea : ad (n + 1 + j * (1 + b)) = H.size + 1 + j * (1 + b) := by
        rw [show n + 1 + j * (1 + b) = n + (1 + j * (1 + b)) by omega, ad_add X0, hz]
        omega
      rw [ea, e1 j hj, vp_cell_q]
      congr 1
      unfold arrV
      congr 2
      funext i
      show (if i.val < b then Value.ref (H.size + 1 + j * (1 + b) + 1 + i.val) else Value.null) = va_rf (if um (rowL n a ++ (cubL n (1 + b) b a ++ (loc ++ us))) (n + 1 + j * (1 + b)) i.val = 0 then none else some (ad (n + 1 + j * (1 + b) + 1 + 1 * i.val)))
      rw [if_pos i.isLt, um_same (row_ne (by omega)), cub_at i.isLt (by omega) hj, if_neg (by decide), Nat.one_mul, show n + 1 + j * (1 + b) + 1 + i.val = n + (1 + j * (1 + b) + 1 + i.val) by omega, ad_add X0]
      have e9 : H.size + 1 + j * (1 + b) + 1 + i.val = ad n + (1 + j * (1 + b) + 1 + i.val) := by omega
      rw [e9]
      rfl
    · obtain ⟨u, rfl⟩ : ∃ u, t = 1 + u := ⟨t - 1, by omega⟩
      have hu : u < b := by omega
      rw [← Nat.add_assoc, el_i (hin j hj u hu).1 (by decide) (by decide), (hin j hj u hu).2]
      show H1[ad (n + 1 + j * (1 + b) + 1 + u)]? = some (vp_cell _ _)
      have ea : ad (n + 1 + j * (1 + b) + 1 + u) = H.size + 1 + j * (1 + b) + 1 + u := by
        rw [show n + 1 + j * (1 + b) + 1 + u = n + (1 + j * (1 + b) + 1 + u) by omega, ad_add X0, hz]
        omega
      rw [ea, e2 j hj u hu]
      have ef : (fun i => Int32.ofInt (um (rowL n a ++ (cubL n (1 + b) b a ++ (loc ++ us))) (n + 1 + j * (1 + b) + 1 + u) i)) = fun _ => (0 : Int32) := by
        funext i
        rw [um_same (row_ne (by omega)), um_same (cub_ne (fun j2 hj2 => by
          intro z
          have z2 : j * (1 + b) + (1 + u) = j2 * (1 + b) := by omega
          rcases Nat.lt_or_ge j j2 with g | g
          · have := Nat.mul_le_mul_right (1 + b) (show j + 1 ≤ j2 from g)
            rw [Nat.succ_mul] at this
            omega
          · have := Nat.mul_le_mul_right (1 + b) g
            omega)), show n + 1 + j * (1 + b) + 1 + u = n + (1 + j * (1 + b) + 1 + u) by omega, u_zero X0 (hoff (1 + j * (1 + b) + 1 + u) (by omega)) (by omega) (by omega) i]
        rfl
      rw [ef]
      rfl
theorem slt_cub {n a b r : Nat} (hgr : ∀ j, j < a → (SH (n + j * (1 + b))).1 = 5 ∧ (SH (n + j * (1 + b))).2.1 = b) (hin : ∀ j, j < a → ∀ t, t < b → (SH (n + j * (1 + b) + 1 + t)).1 = 1 ∧ (SH (n + j * (1 + b) + 1 + t)).2.1 = r) : ∀ i, i ≤ a → slt (n + i * (1 + b)) = slt n + i * (b + b * r)
  | 0, _ => by simp
  | i + 1, h => by
    have ih := slt_cub hgr hin i (by omega)
    have h1 : slt (n + i * (1 + b) + 1 + b) = slt (n + i * (1 + b) + 1) + b * r := slt_row b (fun t ht => hin i (by omega) t ht)
    have h2 : slt (n + i * (1 + b) + 1) = slt (n + i * (1 + b)) + b := by
      show slt (n + i * (1 + b)) + szc (n + i * (1 + b)) = _
      rw [szc_arr (hgr i (by omega)) (by decide)]
    rw [Nat.succ_mul, Nat.succ_mul, show n + (i * (1 + b) + (1 + b)) = n + i * (1 + b) + 1 + b by omega, h1, h2, ih]
    omega
theorem u_multi3 (C0 : CX p s m args meth c cc nL own D ca ad A) (X0 : UX s ad us d) {n a b r idx : Nat} (hn : cnd d loc = n) (h7 : n + a * (1 + b) < 337) (hsh : (SH n).1 = 6 ∧ (SH n).2.1 = a ∧ (SH n).2.2.1 = n + 1 ∧ (SH n).2.2.2 = 1 + b)
    (hgr : ∀ j, j < a → (SH (n + 1 + j * (1 + b))).1 = 5 ∧ (SH (n + 1 + j * (1 + b))).2.1 = b ∧ (SH (n + 1 + j * (1 + b))).2.2.1 = n + 1 + j * (1 + b) + 1 ∧ (SH (n + 1 + j * (1 + b))).2.2.2 = 1)
    (hin : ∀ j, j < a → ∀ t, t < b → (SH (n + 1 + j * (1 + b) + 1 + t)).1 = 1 ∧ (SH (n + 1 + j * (1 + b) + 1 + t)).2.1 = r) (hoff : ∀ i, i < a * (1 + b) + 1 → offs (n + i) loc = true) (hdn : d ≤ n) (ha : a < 1000 ∧ b < 1000 ∧ r < 1000)
    (hlk : Cond.classLink own idx "[[[I" ∈ GT) (harr : Cond.arrayClass .int ∈ GT) (hR : n - d + (1 + a * (1 + b)) ≤ R.cells ∧ slt n - slt d + (a + a * (b + b * r)) ≤ R.slots) (hd : decode cc pc = .ok (.multianewarray idx 3, 4)) {ia ib ir : Int} (hia : (a : Int) = ia) (hib : (b : Int) = ib) (hir : (r : Int) = ir)
    (h : JU p l e R s m args below meth c nL D ca ad A Qf us d (pc + 4) ls (vR n :: st) ((337, 0, ((n + 1 + a * (1 + b) : Nat) : Int)) :: (rowL n a ++ (cubL n (1 + b) b a ++ loc)))) : JU p l e R s m args below meth c nL D ca ad A Qf us d pc ls (vI ir :: vI ib :: vI ia :: st) loc := by
  subst hia
  subst hib
  subst hir
  intro H locs lsA hz hP hS hl
  rw [hn] at hz ⊢
  intro T hT X
  have ea : (Int32.ofInt (a : Int)).toNatClampNeg = a := cl_nat (by omega)
  have eb : (Int32.ofInt (b : Int)).toNatClampNeg = b := cl_nat (by omega)
  have er : (Int32.ofInt (r : Int)).toNatClampNeg = r := cl_nat (by omega)
  obtain ⟨vm₁, c6, c5, c1, L, hW, f1, f2, f3, hL, X', stp⟩ := multi3 X C0.1 (own := own) (index := idx) (ty := .int) C0.2.2.2.1 (C0.2.2.2.2.1 _ hlk) X0.2.2.2.2.2.2 X0.2.2.2.2.2.1 (C0.2.2.2.2.1 _ harr) (g := F0 m pc lsA (.int (Int32.ofInt (r : Int)) :: .int (Int32.ofInt (b : Int)) :: .int (Int32.ofInt (a : Int)) :: st.map (vv ad))) rfl (by rw [C0.2.1]; exact hd) rfl (nng_of ⟨by omega, by omega⟩ (by omega)) (nng_of ⟨by omega, by omega⟩ (by omega)) (nng_of ⟨by omega, by omega⟩ (by omega)) (by rw [ea]; omega) (by rw [eb]; omega) (by rw [er]; show r * 4 ≤ _; omega) (by rw [er]; omega) rfl rfl (by rw [ea, eb]; exact hR.1) (by rw [ea, eb, er]; exact hR.2)
  rw [ea, eb] at hL
  rw [ea, eb, er] at X' stp
  have e6 : c6 = ca 6 := Option.some.inj (f1.symm.trans (C0.2.2.2.2.2.2.1.2 5 _ rfl).2)
  have e5 : c5 = ca 5 := Option.some.inj (f2.symm.trans (C0.2.2.2.2.2.2.1.2 4 _ rfl).2)
  have e1 : c1 = ca 1 := Option.some.inj (f3.symm.trans (C0.2.2.2.2.2.2.1.2 0 _ rfl).2)
  subst e6
  subst e5
  subst e1
  have g1 := fill3_facts (T.setVm vm₁) (ca 6) (ca 5) (ca 1) a b r (defaultValue .int) a
  have hTz : (T.setVm vm₁).heap = H := hT
  have hTz2 : T.heap.size = H.size := by rw [hT]
  have hmj : ∀ j, j < a → j * (1 + b) + (1 + b) ≤ a * (1 + b) := by
    intro j hj
    have := Nat.mul_le_mul_right (1 + b) (show j + 1 ≤ a from hj)
    rw [Nat.succ_mul] at this
    exact this
  have gin : ∀ j, j < a → ∀ q, H.size + 1 + j * (1 + b) ≤ q → q < H.size + 1 + j * (1 + b) + (1 + b) → (fill3 (T.setVm vm₁) (ca 6) (ca 5) (ca 1) a b r (defaultValue .int) a).heap[q]? = (Jvm.Free.Multi.fill (fill3 (T.setVm vm₁) (ca 6) (ca 5) (ca 1) a b r (defaultValue .int) j) (ca 5) (ca 1) b r (defaultValue .int) b).heap[q]? := by
    intro j hj q q1 q2
    exact fill3_in (T.setVm vm₁) (ca 6) (ca 5) (ca 1) a b r (defaultValue .int) (by rw [hTz]; exact q1) (by rw [hTz, Nat.succ_mul]; omega) a hj
  have gsz : ∀ j, (fill3 (T.setVm vm₁) (ca 6) (ca 5) (ca 1) a b r (defaultValue .int) j).heap.size = H.size + 1 + j * (1 + b) := by
    intro j
    rw [(fill3_facts (T.setVm vm₁) (ca 6) (ca 5) (ca 1) a b r (defaultValue .int) j).1, hTz]
  have hPn := cube_P (D := D) (ca := ca) (H1 := (fill3 (T.setVm vm₁) (ca 6) (ca 5) (ca 1) a b r (defaultValue .int) a).heap) X0 hn h7 hsh hgr hin hoff hdn hz hP
    (fun q hq => by rw [fill3_old (T.setVm vm₁) _ _ _ _ _ _ _ (by rw [hTz]; exact hq), hTz])
    (by have := g1.2.1; rw [hTz, outer3_arr] at this; exact this)
    (fun j hj => by
      rw [gin j hj _ (Nat.le_refl _) (by omega)]
      have := (Jvm.Free.Multi.fill_facts (fill3 (T.setVm vm₁) (ca 6) (ca 5) (ca 1) a b r (defaultValue .int) j) (ca 5) (ca 1) b r (defaultValue .int) b).2.1
      rw [gsz, outer_arr] at this
      exact this)
    (fun j hj t ht => by
      rw [gin j hj _ (by omega) (by omega)]
      have := Jvm.Free.Multi.fill_inner (fill3 (T.setVm vm₁) (ca 6) (ca 5) (ca 1) a b r (defaultValue .int) j) (ca 5) (ca 1) b r (defaultValue .int) b t ht
      rw [gsz] at this
      rw [this]
      show some ({ cls := ca 1, slots := Array.replicate r (.int 0), vm := .none } : Cell) = _
      rw [arrV_new])
  have hcn : cnd d ((337, 0, ((n + 1 + a * (1 + b) : Nat) : Int)) :: (rowL n a ++ (cubL n (1 + b) b a ++ loc))) = n + 1 + a * (1 + b) := rfl
  have key := h _ (locs ++ L) lsA (by
    rw [hcn, gsz, hz, show n + 1 + a * (1 + b) = n + (1 + a * (1 + b)) by omega, ad_add X0]
    omega) hPn ⟨by rw [gsz]; have := hS.1; omega, fun q h1 h2 => by
      have hq : q < H.size := Nat.lt_of_lt_of_le h1 hS.1
      rw [fill3_old (T.setVm vm₁) _ _ _ _ _ _ _ (by rw [hTz]; exact hq), hTz]
      exact hS.2.1 q h1 h2, fun x hx => by
      rcases List.mem_append.mp hx with q | q
      · exact hS.2.2 x q
      · have := (hL x q).1
        rw [hTz2] at this
        exact C0.2.2.2.2.2.2.2.2.2.1 _ (Nat.le_trans hS.1 this)⟩ hl
  have hs1 : slt (n + 1 + a * (1 + b)) = slt (n + 1) + a * (b + b * r) := slt_cub (n := n + 1) (fun j hj => ⟨(hgr j hj).1, (hgr j hj).2.1⟩) hin a (Nat.le_refl _)
  have hs0 : slt (n + 1) = slt n + a := by
    show slt n + szc n = _
    rw [szc_arr ⟨hsh.1, hsh.2.1⟩ (by decide)]
  have hm := slt_mono hdn
  rw [hcn, show n + 1 + a * (1 + b) - d = n - d + 1 + a * (1 + b) by omega, show slt (n + 1 + a * (1 + b)) - slt d = slt n - slt d + a + a * (b + b * r) by omega] at key
  obtain ⟨t2, a1, b1⟩ := key _ rfl X'
  rw [hTz2, hz] at stp
  exact ⟨t2, stp t2 a1, b1⟩
end Cube3
