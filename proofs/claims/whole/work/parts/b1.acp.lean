--BLTRUE
section Acp
variable {p : Program} {l : Launch} {e : Env} {R : Room} {s : State} {m : MethodId} {args : Array Value} {below : List Frame} {meth : Method} {c : Code} {cc : ByteArray} {nL : Nat} {own : String} {D : va_G} {ca : Nat → ClassId} {ad : Nat → Nat} {A : Nat → Prop} {Qf : State → Prop} {gc gs : Nat → Nat} {bl : Bool}
variable {J : JT} {Q : QT} {k : Kt} {pc nx : Nat}
theorem nng_of {i : Int} (h : okI i) (h0 : 0 ≤ i) : ¬ Int32.ofInt i < 0 := by
  intro q
  have := Int32.lt_iff_toInt_lt.mp q
  rw [to_ok h, Int32.toInt_zero] at this
  omega
theorem mk_setG {M M' : Mem} {k : Nat} {e : va_E} (hM : ∀ x, x ≠ k → M' x = M x) (he : el true ca ad M' k = e) : (mk true ca ad M).set k (ad k, e) = mk true ca ad M' := by
  apply List.ext_getElem?
  intro i
  by_cases hi : i < 337
  · rw [mk_at (M := M') (show i < cnt true M' from hi)]
    by_cases hik : k = i
    · subst hik
      rw [List.getElem?_set_self (by rw [mk_len]; exact hi), he]
    · rw [List.getElem?_set_ne hik, mk_at (show i < cnt true M from hi)]
      have : el true ca ad M' i = el true ca ad M i := by
        unfold el
        rw [hM i (fun q => hik q.symm)]
      rw [this]
  · rw [List.getElem?_eq_none (by rw [List.length_set, mk_len]; show 337 ≤ i; omega), List.getElem?_eq_none (by rw [mk_len]; show 337 ≤ i; omega)]
theorem cpy_off {M : Mem} {a sp b dp n x : Nat} (h : x ≠ b) : cpy M a sp b dp n x = M x := by
  funext y
  unfold cpy
  rw [if_neg (fun q => h q.1)]
theorem rng_cpy {M : Mem} {a sp b dp n : Nat} (h : rng M) (ha : (SH a).1 = 1) (hb : (SH b).1 = 1) : rng (cpy M a sp b dp n) := by
  intro x y
  have := h x y
  unfold cpy
  by_cases q : x = b ∧ dp ≤ y ∧ y < dp + n
  · rw [if_pos q, q.1, if_neg (by omega)]
    have := h a (sp + (y - dp))
    rw [if_neg (by omega)] at this
    exact this
  · rw [if_neg q]
    exact this
theorem s_acp (C0 : CX p s m args meth c cc nL own D ca ad A) {idx : Nat} (hlink : Cond.methodLink own idx arraycopyName ∈ GT) (hnat : Cond.native arraycopyName ∈ GT) (hstat : Cond.static arraycopyName ∈ GT) (hini : Cond.initialized "java/lang/System" ∈ GT) (hrm : 1 ≤ R.frames ∧ 60 ≤ R.locals) (hd : decode cc pc = .ok (.invokestatic idx, 3)) (hg : gc pc ≤ gc (pc + 3) ∧ gs pc ≤ gs (pc + 3)) (hk : ∀ ls st M, k ls st M → JW p l e R s m args below meth c nL D ca ad A Qf gc gs true (pc + 3) ls st M) : ∀ ls st M, tx_acp J Q k ls st M → JW p l e R s m args below meth c nL D ca ad A Qf gc gs true pc ls st M := by
  intro ls st M h H locs lsA hR hc hz hP hS ho hol hl
  unfold tx_acp at h
  split at h
  · rename_i n dp b sp a st
    split at h
    · rename_i hcat
      obtain ⟨⟨ka, kb, hab, n0, s0, d0, hs, hd'⟩, h⟩ := h
      have on : okI n := okh ho
      have od : okI dp := okh (okt ho)
      have os : okI sp := okh (okt (okt (okt ho)))
      have cl := cats_le (m := m) (pc := pc) (ad := ad) hcat
      refine va_copyi C0.1 C0.2.1 (C0.2.2.1.trans hl.1.symm) C0.2.2.2.1 (C0.2.2.2.2.1 _ hlink) (C0.2.2.2.2.1 _ hnat) (C0.2.2.2.2.1 _ hstat) (C0.2.2.2.2.1 _ hini) C0.2.2.2.2.2.2.1 hP (mk_D hc C0.2.2.2.2.2.2.2.1 C0.2.2.2.2.2.2.2.2.1) hS a b 0 0 (mk_i ka (by decide) (by decide)) (mk_i kb (by decide) (by decide)) rfl rfl rfl (nng_of os s0) (nng_of od d0) (nng_of on n0) (by rw [cl_of os, cl_of on]; omega) (by rw [cl_of od, cl_of on]; omega) (fun _ _ => rfl) hrm.1 ?_ hd ?_
      · have e1 : nativeFrameWords "java/lang/System" "arraycopy" 5 + 11 ≤ 40 := by decide
        omega
      · intro H1 locs1 hP1 _ hS1
        have ef : va_cpy (fun j => Int32.ofInt (M a j)) (fun j => Int32.ofInt (M b j)) sp.toNat dp.toNat n.toNat = fun j => Int32.ofInt (cpy M a sp.toNat b dp.toNat n.toNat b j) := by
          funext j
          unfold va_cpy cpy
          by_cases q : dp.toNat ≤ j ∧ j < dp.toNat + n.toNat
          · rw [if_pos q, if_pos ⟨rfl, q⟩]
          · rw [if_neg q, if_neg (fun z => q z.2)]
        rw [cl_of os, cl_of od, cl_of on, ef, mk_setG (M' := cpy M a sp.toNat b dp.toNat n.toNat) (fun x hx => cpy_off hx) (el_i kb (by decide) (by decide))] at hP1
        exact W.widen hg.1 hg.2 (hk _ _ _ h H1 locs1 lsA (rng_cpy hR ka kb) (Nat.le_refl _) (fun q => nomatch q) hP1 hS1 (okt (okt (okt (okt (okt ho))))) hol hl)
    · exact h.elim
  · exact h.elim
end Acp
/-! what a method has made by then: the calls behind it that may throw -/
def gl : List (Nat × Nat) → Nat → Nat
  | [], _ => 0
  | (s, m) :: L, pc => (match Nat.ble pc s with
    | true => 0
    | false => m) + gl L pc
def gl6 (L : List (Nat × Nat)) (pc : Nat) : Nat := 6 * gl L pc
theorem hgq {L : List (Nat × Nat)} {a b : Nat} (h : Nat.ble (gl L a) (gl L b) = true) : gl L a ≤ gl L b ∧ gl6 L a ≤ gl6 L b := by
  have h1 := Nat.le_of_ble_eq_true h
  exact ⟨h1, Nat.mul_le_mul_left 6 h1⟩
theorem hgt {L : List (Nat × Nat)} {pc d : Nat} {cs : List (Int × Nat)} (h : ((d :: cs.map Prod.snd).all (fun t => Nat.ble (gl L pc) (gl L t))) = true) : ∀ t, (t = d ∨ ∃ v, (v, t) ∈ cs) → gl L pc ≤ gl L t ∧ gl6 L pc ≤ gl6 L t := by
  intro t ht
  refine hgq (List.all_eq_true.mp h t ?_)
  rcases ht with rfl | ⟨v, hv⟩
  · exact List.mem_cons_self
  · exact List.mem_cons_of_mem _ (List.mem_map.mpr ⟨(v, t), hv, rfl⟩)
