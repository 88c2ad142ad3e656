def sit0 (Ab : Mem) (wo : Int) : Mem := fun c i => if c = 0 then (if Ab 2 i = -1 ∧ (i : Int) ≠ wo then Ab 0 i else -2) else if c = 2 then 60 * Ab 5 i else -1
theorem sit0_ok {Ab : Mem} (ho : HallOK Ab) (wo : Int) : SigOK Ab (sit0 Ab wo) := by
  refine ⟨fun t ht => ?_, fun t ht => Or.inl rfl, fun p hp => ?_⟩
  · have h := (ho.2.2.2.2.2.2.1 t ht).1
    show (if Ab 2 t = -1 ∧ (t : Int) ≠ wo then Ab 0 t else -2) = -2 ∨ (if Ab 2 t = -1 ∧ (t : Int) ≠ wo then Ab 0 t else -2) = -1 ∨ (0 ≤ (if Ab 2 t = -1 ∧ (t : Int) ≠ wo then Ab 0 t else -2) ∧ (if Ab 2 t = -1 ∧ (t : Int) ≠ wo then Ab 0 t else -2) < Ab 10 1 ∧ (-1 : Int) = -1)
    split
    · exact Or.inr (Or.inr ⟨h.1, h.2, rfl⟩)
    · exact Or.inl rfl
  · have h := (ho.2.2.2.2.2.1 p hp).2
    show ((-1 : Int) = -1 → 0 ≤ 60 * Ab 5 p) ∧ (-1386 ≤ 60 * Ab 5 p ∧ 60 * Ab 5 p ≤ 5940) ∧ -1 ≤ (-1 : Int) ∧ (-1 : Int) < 1000
    omega
def G_X8_begin : FN := fun as M Q => match as with
  | [.inr (.inl k), .inr (.inl pl), .inr (.inl lo), .inl wo] => ∃ Ab, (SitAt k ∧ (pl = 3 ∨ pl = 14) ∧ (lo = 25 ∨ lo = 30)) ∧ PlanRel M pl Ab ∧ LoanRel M lo Ab 11 (Ab 10 5) ∧ HallOK Ab ∧ LoanOK Ab 11 (Ab 10 5) ∧ ∀ M' : Mem, (∀ u v, (u < k ∨ (k < u ∧ u < k + 17) ∨ k + 23 < u) → M' u v = M u v) → (M' k 0).toNat = pl → (M' k 1).toNat = lo → SP M' k Ab → SitRel M' k Ab wo (sit0 Ab wo) → Q none M'
  | _ => False
def b_X8_begin_0 : List AT := [tx_al 0, tx_al 1, tx_pm 8 0, tx_al 0, tx_al 2, tx_pm 8 1, tx_al 0, tx_gm 8 0, tx_al 0, tx_gr 8 18, tx_il 3, tx_al 0, tx_gr 8 23, tx_callv 6 (nf G_X6_findThrough) 3, tx_ic 0, tx_is 4, tx_fall 29]
def b_X8_begin_29 : List AT := [tx_il 4, tx_al 0, tx_gm 8 0, tx_gi 6 3, tx_cmp r_ge 109, tx_al 0, tx_gm 8 0, tx_gr 6 5, tx_il 4, tx_ia, tx_ic (-1), tx_cmp r_ne 65, tx_il 4, tx_il 3, tx_cmp r_eq 65, tx_ic 1, tx_fall 66]
def b_X8_begin_65 : List AT := [tx_ic 0, tx_fall 66]
def b_X8_begin_66 : List AT := [tx_is 5, tx_al 0, tx_gr 8 17, tx_il 4, tx_il 5, tx_ifz r_eq 92, tx_al 0, tx_gm 8 0, tx_gr 6 3, tx_il 4, tx_ia, tx_fall 94]
def b_X8_begin_92 : List AT := [tx_ic (-2), tx_fall 94]
def b_X8_begin_94 : List AT := [tx_iax, tx_al 0, tx_gr 8 19, tx_il 4, tx_ic (-1), tx_iax, tx_inc 4 1, tx_fall 29]
def b_X8_begin_109 : List AT := [tx_ic 0, tx_is 4, tx_fall 112]
def b_X8_begin_112 : List AT := [tx_il 4, tx_al 0, tx_gm 8 0, tx_gi 6 0, tx_cmp r_ge 166, tx_al 0, tx_gr 8 20, tx_il 4, tx_ic 0, tx_iax, tx_al 0, tx_gr 8 21, tx_il 4, tx_ic 60, tx_al 0, tx_gm 8 0, tx_gr 6 2, tx_il 4, tx_ia, tx_bin f_mul, tx_iax, tx_al 0, tx_gr 8 22, tx_il 4, tx_ic (-1), tx_iax, tx_inc 4 1, tx_fall 112]
def b_X8_begin_166 : List AT := [tx_rv]
def R_X8_begin (J : JT) (Q : QT) : Prop := (∀ ls st M, wpl J Q b_X8_begin_0 ls st M → J 0 ls st M) ∧ (∀ ls st M, wpl J Q b_X8_begin_29 ls st M → J 29 ls st M) ∧ (∀ ls st M, wpl J Q b_X8_begin_65 ls st M → J 65 ls st M) ∧ (∀ ls st M, wpl J Q b_X8_begin_66 ls st M → J 66 ls st M) ∧ (∀ ls st M, wpl J Q b_X8_begin_92 ls st M → J 92 ls st M) ∧ (∀ ls st M, wpl J Q b_X8_begin_94 ls st M → J 94 ls st M) ∧ (∀ ls st M, wpl J Q b_X8_begin_109 ls st M → J 109 ls st M) ∧ (∀ ls st M, wpl J Q b_X8_begin_112 ls st M → J 112 ls st M) ∧ (∀ ls st M, wpl J Q b_X8_begin_166 ls st M → J 166 ls st M)
theorem R_X8_begin_0 {J : JT} {Q : QT} (R : R_X8_begin J Q) {ls : Ls} {st : St} {M : Mem} (h : wpl J Q b_X8_begin_0 ls st M) : J 0 ls st M := R.1 ls st M h
theorem R_X8_begin_29 {J : JT} {Q : QT} (R : R_X8_begin J Q) {ls : Ls} {st : St} {M : Mem} (h : wpl J Q b_X8_begin_29 ls st M) : J 29 ls st M := R.2.1 ls st M h
theorem R_X8_begin_65 {J : JT} {Q : QT} (R : R_X8_begin J Q) {ls : Ls} {st : St} {M : Mem} (h : wpl J Q b_X8_begin_65 ls st M) : J 65 ls st M := R.2.2.1 ls st M h
theorem R_X8_begin_66 {J : JT} {Q : QT} (R : R_X8_begin J Q) {ls : Ls} {st : St} {M : Mem} (h : wpl J Q b_X8_begin_66 ls st M) : J 66 ls st M := R.2.2.2.1 ls st M h
theorem R_X8_begin_92 {J : JT} {Q : QT} (R : R_X8_begin J Q) {ls : Ls} {st : St} {M : Mem} (h : wpl J Q b_X8_begin_92 ls st M) : J 92 ls st M := R.2.2.2.2.1 ls st M h
theorem R_X8_begin_94 {J : JT} {Q : QT} (R : R_X8_begin J Q) {ls : Ls} {st : St} {M : Mem} (h : wpl J Q b_X8_begin_94 ls st M) : J 94 ls st M := R.2.2.2.2.2.1 ls st M h
theorem R_X8_begin_109 {J : JT} {Q : QT} (R : R_X8_begin J Q) {ls : Ls} {st : St} {M : Mem} (h : wpl J Q b_X8_begin_109 ls st M) : J 109 ls st M := R.2.2.2.2.2.2.1 ls st M h
theorem R_X8_begin_112 {J : JT} {Q : QT} (R : R_X8_begin J Q) {ls : Ls} {st : St} {M : Mem} (h : wpl J Q b_X8_begin_112 ls st M) : J 112 ls st M := R.2.2.2.2.2.2.2.1 ls st M h
theorem R_X8_begin_166 {J : JT} {Q : QT} (R : R_X8_begin J Q) {ls : Ls} {st : St} {M : Mem} (h : wpl J Q b_X8_begin_166 ls st M) : J 166 ls st M := R.2.2.2.2.2.2.2.2 ls st M h
theorem P_X8_begin {J : JT} {Q : QT} (R : R_X8_begin J Q) {as : List Vl} {M : Mem} (h : nf G_X8_begin as M Q) : (enL as).length ≤ 6 ∧ J 0 (padL 6 (enL as)) [] M := by
  unfold nf G_X8_begin at h
  split at h
  · rename_i k pl lo wo
    obtain ⟨Ab, ⟨hk, hpl, hlo⟩, hp0, hl0, ho, hlok, hQ⟩ := h
    obtain ⟨g1, g2⟩ := si_ge hk
    obtain ⟨n1, n2⟩ := nT_le ho
    obtain ⟨p1, p2⟩ := nP_le ho
    have spk : ∀ M' : Mem, (∀ u v, (u < k ∨ (k < u ∧ u < k + 17) ∨ k + 23 < u) → M' u v = M u v) → (M' k 0).toNat = pl → (M' k 1).toNat = lo → SP M' k Ab := by
      intro M' f e0 e1
      exact ⟨hk, by rw [e0]; exact hpl, by rw [e1]; exact hlo, by rw [e0]; exact hp0.kept (fun u v q1 q2 => f u v (by omega)), by rw [e1]; exact hl0.kept (fun u v q1 q2 => f u v (by omega)), ho, hlok⟩
    have key2 : ∀ i, i ≤ nP Ab → ∀ (x : Int) (M' : Mem) (z : Option Vl), x = (i : Int) → (∀ u v, (u < k ∨ (k < u ∧ u < k + 17) ∨ k + 23 < u) → M' u v = M u v) → (M' k 0).toNat = pl → (M' k 1).toNat = lo →
        (∀ t, t < nT Ab → M' (k + 17) t = sit0 Ab wo 0 t ∧ M' (k + 18) t = thC Ab wo t ∧ M' (k + 19) t = -1) → (∀ p, p < i → M' (k + 21) p = 60 * Ab 5 p ∧ M' (k + 22) p = -1) → J 112 [some (vR k), some (vR pl), some (vR lo), some (vI wo), some (vI x), z] [] M' := by
      refine dn ?_ ?_
      · intro x M' z hx f e0 e1 h1 h2
        have sp := spk M' f e0 e1
        obtain ⟨hpk, hp, -⟩ := sp.pl
        refine R_X8_begin_112 R (an (si_ob hk) (an (pl_ob hpk) (bt (show M' (M' k 0).toNat 0 ≤ x by rw [hp.1]; omega) (R_X8_begin_166 R (hQ M' f e0 e1 sp ⟨fun t ht => ?_, fun p hp => h2 p hp⟩)))))
        exact ⟨(h1 t ht).1, (h1 t ht).2.1, Or.inl (h1 t ht).2.2⟩
      · intro i hi ih x M' z hx f e0 e1 h1 h2
        have sp := spk M' f e0 e1
        obtain ⟨hpk, hp, -⟩ := sp.pl
        subst hx
        have a : ∀ j, 20 ≤ j → j ≤ 22 → AK 1 (k + j) (i : Int) := fun j q1 q2 => ak_of (si_10 hk q1 q2) (by omega) (by omega)
        have hp5 : M (pl + 2) i = Ab 5 i := (hp0.2.2.2.2.2.1 i hi).2
        have h5 := (ho.2.2.2.2.2.1 i hi).2
        have ek : up M' (k + 20) ((i : Int)).toNat 0 k 0 = M' k 0 := up_ne (by omega)
        have ev : up M' (k + 20) ((i : Int)).toNat 0 ((up M' (k + 20) ((i : Int)).toNat 0 k 0).toNat + 2) ((i : Int)).toNat = Ab 5 i := by
          rw [ek, e0, up_ne (by omega), f _ _ (by omega), Int.toNat_natCast]
          exact hp5
        refine R_X8_begin_112 R (an (si_ob hk) (an (pl_ob hpk) (bf (show ¬ M' (M' k 0).toNat 0 ≤ (i : Int) by rw [hp.1]; omega) (an (si_ob hk) (an (a 20 (by decide) (by decide)) (an (si_ob hk) (an (si_ob hk) (an (by show OB (up M' (k + 20) ((i : Int)).toNat 0 k 0).toNat 6; rw [ek]; exact pl_ob hpk) (an (by show AK 1 ((up M' (k + 20) ((i : Int)).toNat 0 k 0).toNat + 2) (i : Int); rw [ek]; exact ak_of (pl_2 hpk) (by omega) (by omega)) (an (a 21 (by decide) (by decide)) (an (si_ob hk) (an (a 22 (by decide) (by decide)) (ih _ _ _ (wn rfl (by omega)) (fun u v hu => ?_) ?_ ?_ (fun t ht => ?_) (fun p hp => ?_))))))))))))))
        · rw [up_ne (by omega), up_ne (by omega), up_ne (by omega)]; exact f u v hu
        · rw [up_ne (by omega), up_ne (by omega), up_ne (by omega)]; exact e0
        · rw [up_ne (by omega), up_ne (by omega), up_ne (by omega)]; exact e1
        · rw [up_ne (by omega), up_ne (by omega), up_ne (by omega), up_ne (by omega), up_ne (by omega), up_ne (by omega), up_ne (by omega), up_ne (by omega), up_ne (by omega)]; exact h1 t ht
        · rw [ev, Int.toNat_natCast]
          by_cases e : p = i
          · subst e
            rw [up_ne (by omega), up_eq, up_eq]
            refine ⟨?_, rfl⟩
            show w32 (60 * Ab 5 p) = _
            exact w1 (by omega) (by omega) rfl
          · rw [up_ne (by omega), up_ne (by omega), up_ne (by omega), up_ne (by omega), up_ne (by omega), up_ne (by omega)]
            exact h2 p (by omega)
    have key1 : ∀ i, i ≤ nT Ab → ∀ (x : Int) (M' : Mem) (z : Option Vl), x = (i : Int) → (∀ u v, (u < k ∨ (k < u ∧ u < k + 17) ∨ k + 23 < u) → M' u v = M u v) → (M' k 0).toNat = pl → (M' k 1).toNat = lo →
        (∀ t, t < nT Ab → M' (k + 18) t = thC Ab wo t) → (∀ t, t < i → M' (k + 17) t = sit0 Ab wo 0 t ∧ M' (k + 19) t = -1) → J 29 [some (vR k), some (vR pl), some (vR lo), some (vI wo), some (vI x), z] [] M' := by
      refine dn ?_ ?_
      · intro x M' z hx f e0 e1 h1 h2
        have sp := spk M' f e0 e1
        obtain ⟨hpk, hp, -⟩ := sp.pl
        exact R_X8_begin_29 R (an (si_ob hk) (an (pl_ob hpk) (bt (show M' (M' k 0).toNat 3 ≤ x by rw [hp.2.1]; omega) (R_X8_begin_109 R (key2 0 (Nat.zero_le _) _ _ _ rfl f e0 e1 (fun t ht => ⟨(h2 t ht).1, h1 t ht, (h2 t ht).2⟩) (fun p hp => absurd hp (Nat.not_lt_zero p)))))))
      · intro i hi ih x M' z hx f e0 e1 h1 h2
        have sp := spk M' f e0 e1
        obtain ⟨hpk, hp, -⟩ := sp.pl
        subst hx
        obtain ⟨d1, d2, d3, d4⟩ := hp.2.2.2.2.2.2.1 i hi
        have d3' : M' ((M' k 0).toNat + 5) ((i : Int)).toNat = Ab 2 i := d3
        have d1' : M' ((M' k 0).toNat + 3) ((i : Int)).toNat = Ab 0 i := d1
        have a17 : AK 1 (k + 17) (i : Int) := ak_of (si_14 hk (by decide) (by decide)) (by omega) (by omega)
        have a19 : AK 1 (k + 19) (i : Int) := ak_of (si_14 hk (by decide) (by decide)) (by omega) (by omega)
        have fin : ∀ (v : Int) (z' : Option Vl), v = sit0 Ab wo 0 i → J 94 [some (vR k), some (vR pl), some (vR lo), some (vI wo), some (vI (i : Int)), z'] [vI v, vI (i : Int), vR (k + 17)] M' := by
          intro v z' hv
          refine R_X8_begin_94 R (an a17 (an (si_ob hk) (an a19 (ih _ _ _ (wn rfl (by omega)) (fun u v hu => ?_) ?_ ?_ (fun t ht => ?_) (fun t ht => ?_)))))
          · rw [up_ne (by omega), up_ne (by omega)]; exact f u v hu
          · rw [up_ne (by omega), up_ne (by omega)]; exact e0
          · rw [up_ne (by omega), up_ne (by omega)]; exact e1
          · rw [up_ne (by omega), up_ne (by omega)]; exact h1 t ht
          · rw [Int.toNat_natCast]
            by_cases e : t = i
            · subst e
              rw [up_ne (by omega), up_eq, up_eq]
              exact ⟨hv, rfl⟩
            · rw [up_ne (by omega), up_ne (by omega), up_ne (by omega), up_ne (by omega)]
              exact h2 t (by omega)
        have out : ¬ (Ab 2 i = -1 ∧ (i : Int) ≠ wo) → J 65 [some (vR k), some (vR pl), some (vR lo), some (vI wo), some (vI (i : Int)), z] [] M' := by
          intro hc
          refine R_X8_begin_65 R (R_X8_begin_66 R (an (si_ob hk) (bt rfl (R_X8_begin_92 R (fin (-2) _ ?_)))))
          show _ = (if Ab 2 i = -1 ∧ (i : Int) ≠ wo then Ab 0 i else -2)
          rw [if_neg hc]
        refine R_X8_begin_29 R (an (si_ob hk) (an (pl_ob hpk) (bf (show ¬ M' (M' k 0).toNat 3 ≤ (i : Int) by rw [hp.2.1]; omega) (an (si_ob hk) (an (pl_ob hpk) (an (ak_of (pl_5 hpk) (by omega) (by omega)) (br (fun q => ?_) (fun q => br (fun q2 => ?_) (fun q2 => ?_)))))))))
        · have q : ¬ M' ((M' k 0).toNat + 5) ((i : Int)).toNat = -1 := q
          rw [d3'] at q
          exact out (fun z => q z.1)
        · exact out (fun z => z.2 q2)
        · have q : M' ((M' k 0).toNat + 5) ((i : Int)).toNat = -1 := Classical.not_not.mp q
          rw [d3'] at q
          refine R_X8_begin_66 R (an (si_ob hk) (bf (by decide) (an (si_ob hk) (an (pl_ob hpk) (an (ak_of (pl_3 hpk) (by omega) (by omega)) (fin _ _ ?_))))))
          rw [d1']
          show _ = (if Ab 2 i = -1 ∧ (i : Int) ≠ wo then Ab 0 i else -2)
          rw [if_pos ⟨q, q2⟩]
    have ea : ((up (up M k 0 (pl : Int)) k 1 (lo : Int)) k 0).toNat = pl := by
      rw [up_ne (by omega), up_eq]
      omega
    refine ⟨Nat.le_of_ble_eq_true rfl, R_X8_begin_0 R (an (si_ob hk) (an (by omega) (an (si_ob hk) (an (by omega) (an (si_ob hk) (an (si_ob hk) (an (si_ob hk) ?_)))))))⟩
    show OB ((up (up M k 0 (pl : Int)) k 1 (lo : Int)) k 0).toNat 6 ∧ ∃ Ab, PL (up (up M k 0 (pl : Int)) k 1 (lo : Int)) ((up (up M k 0 (pl : Int)) k 1 (lo : Int)) k 0).toNat Ab ∧ (SH (k + 18) = (1, 14, 0, 0) ∧ SH (k + 23) = (1, 3, 0, 0) ∧ k + 18 ≠ k + 23 ∧ (k + 18 < ((up (up M k 0 (pl : Int)) k 1 (lo : Int)) k 0).toNat ∨ ((up (up M k 0 (pl : Int)) k 1 (lo : Int)) k 0).toNat + 10 < k + 18) ∧ (k + 23 < ((up (up M k 0 (pl : Int)) k 1 (lo : Int)) k 0).toNat ∨ ((up (up M k 0 (pl : Int)) k 1 (lo : Int)) k 0).toNat + 10 < k + 23)) ∧ _
    rw [ea]
    have hpA : PlanAt pl := by rcases hpl with rfl | rfl <;> simp [PlanAt]
    refine ⟨pl_ob hpA, Ab, ⟨hpA, hp0.kept (fun u v q1 q2 => by rw [up_ne (by omega), up_ne (by omega)]), ho⟩, ⟨si_14 hk (by decide) (by decide), si_3 hk, by omega, by omega, by omega⟩, fun M2 f2 h2 => key1 0 (Nat.zero_le _) _ _ _ rfl (fun u v hu => ?_) ?_ ?_ h2 (fun t ht => absurd ht (Nat.not_lt_zero t))⟩
    · rw [f2 u v (by omega) (by omega), up_ne (by omega), up_ne (by omega)]
    · rw [f2 k 0 (by omega) (by omega)]; exact ea
    · rw [f2 k 1 (by omega) (by omega), up_eq]
      omega
  · exact h.elim
/-! what counts, what passes -/
def cv (law x : Int) : Int := if law = 2 then 1 else if law = 0 then x else ((rootN x.toNat : Nat) : Int)
def cntF (Ab : Mem) (f : Nat → Int) (bits law : Int) : Int := sumN (fun p => if bitB bits (p : Int) = true then cv law (f p) else 0) (nP Ab)
theorem rootN_le (n : Nat) (h : n ≤ 1386) : rootN n ≤ 40 := (rootF_le n 40).1
theorem cv_bd {law x : Int} (h0 : 0 ≤ x) (h1 : x ≤ 1386) : 0 ≤ cv law x ∧ cv law x ≤ 1386 := by
  unfold cv
  have := rootN_le x.toNat (by omega)
  split
  · omega
  · split <;> omega
theorem cnt_bd {Ab : Mem} (ho : HallOK Ab) {f : Nat → Int} (hf : ∀ p, p < nP Ab → 0 ≤ f p ∧ f p ≤ 1386) (bits law : Int) {n : Nat} (hn : n ≤ nP Ab) : 0 ≤ sumN (fun p => if bitB bits (p : Int) = true then cv law (f p) else 0) n ∧ sumN (fun p => if bitB bits (p : Int) = true then cv law (f p) else 0) n ≤ 13860 := by
  have h10 := nP_le ho
  have h := sumN_bd (f := fun p => if bitB bits (p : Int) = true then cv law (f p) else 0) (c := 1386) (by omega) (n := n) (fun i hi => by
    have := hf i (by omega)
    have := cv_bd (law := law) this.1 this.2
    show 0 ≤ (if bitB bits (i : Int) = true then cv law (f i) else 0) ∧ (if bitB bits (i : Int) = true then cv law (f i) else 0) ≤ 1386
    split <;> omega)
  omega
def G_X8_countOf : FN := fun as M Q => match as with
  | [.inr (.inl k), .inl bits, .inl law] => ∃ Ab, ∃ f : Nat → Int, SP M k Ab ∧ (∀ p, p < nP Ab → M (k + 20) p = f p ∧ 0 ≤ f p ∧ f p ≤ 1386) ∧ (0 ≤ bits ∧ bits < 2147483648) ∧ Q (some (vI (cntF Ab f bits law))) M
  | _ => False
def b_X8_countOf_0 : List AT := [tx_ic 0, tx_is 3, tx_ic 0, tx_is 4, tx_fall 5]
def b_X8_countOf_5 : List AT := [tx_il 4, tx_al 0, tx_gm 8 0, tx_gi 6 0, tx_cmp r_ge 68, tx_il 4, tx_il 1, tx_call (nf G_X10_isIn) 2, tx_ifz r_eq 62, tx_il 3, tx_il 2, tx_ic 2, tx_cmp r_ne 36, tx_ic 1, tx_fall 60]
def b_X8_countOf_36 : List AT := [tx_il 2, tx_ifz r_ne 50, tx_al 0, tx_gr 8 20, tx_il 4, tx_ia, tx_fall 60]
def b_X8_countOf_50 : List AT := [tx_al 0, tx_gr 8 20, tx_il 4, tx_ia, tx_call (nf G_X10_rootOf) 1, tx_fall 60]
def b_X8_countOf_60 : List AT := [tx_bin f_add, tx_is 3, tx_fall 62]
def b_X8_countOf_62 : List AT := [tx_inc 4 1, tx_fall 5]
def b_X8_countOf_68 : List AT := [tx_il 3, tx_ri]
def R_X8_countOf (J : JT) (Q : QT) : Prop := (∀ ls st M, wpl J Q b_X8_countOf_0 ls st M → J 0 ls st M) ∧ (∀ ls st M, wpl J Q b_X8_countOf_5 ls st M → J 5 ls st M) ∧ (∀ ls st M, wpl J Q b_X8_countOf_36 ls st M → J 36 ls st M) ∧ (∀ ls st M, wpl J Q b_X8_countOf_50 ls st M → J 50 ls st M) ∧ (∀ ls st M, wpl J Q b_X8_countOf_60 ls st M → J 60 ls st M) ∧ (∀ ls st M, wpl J Q b_X8_countOf_62 ls st M → J 62 ls st M) ∧ (∀ ls st M, wpl J Q b_X8_countOf_68 ls st M → J 68 ls st M)
theorem R_X8_countOf_0 {J : JT} {Q : QT} (R : R_X8_countOf J Q) {ls : Ls} {st : St} {M : Mem} (h : wpl J Q b_X8_countOf_0 ls st M) : J 0 ls st M := R.1 ls st M h
theorem R_X8_countOf_5 {J : JT} {Q : QT} (R : R_X8_countOf J Q) {ls : Ls} {st : St} {M : Mem} (h : wpl J Q b_X8_countOf_5 ls st M) : J 5 ls st M := R.2.1 ls st M h
theorem R_X8_countOf_36 {J : JT} {Q : QT} (R : R_X8_countOf J Q) {ls : Ls} {st : St} {M : Mem} (h : wpl J Q b_X8_countOf_36 ls st M) : J 36 ls st M := R.2.2.1 ls st M h
theorem R_X8_countOf_50 {J : JT} {Q : QT} (R : R_X8_countOf J Q) {ls : Ls} {st : St} {M : Mem} (h : wpl J Q b_X8_countOf_50 ls st M) : J 50 ls st M := R.2.2.2.1 ls st M h
theorem R_X8_countOf_60 {J : JT} {Q : QT} (R : R_X8_countOf J Q) {ls : Ls} {st : St} {M : Mem} (h : wpl J Q b_X8_countOf_60 ls st M) : J 60 ls st M := R.2.2.2.2.1 ls st M h
theorem R_X8_countOf_62 {J : JT} {Q : QT} (R : R_X8_countOf J Q) {ls : Ls} {st : St} {M : Mem} (h : wpl J Q b_X8_countOf_62 ls st M) : J 62 ls st M := R.2.2.2.2.2.1 ls st M h
theorem R_X8_countOf_68 {J : JT} {Q : QT} (R : R_X8_countOf J Q) {ls : Ls} {st : St} {M : Mem} (h : wpl J Q b_X8_countOf_68 ls st M) : J 68 ls st M := R.2.2.2.2.2.2 ls st M h
theorem P_X8_countOf {J : JT} {Q : QT} (R : R_X8_countOf J Q) {as : List Vl} {M : Mem} (h : nf G_X8_countOf as M Q) : (enL as).length ≤ 5 ∧ J 0 (padL 5 (enL as)) [] M := by
  unfold nf G_X8_countOf at h
  split at h
  · rename_i k bits law
    obtain ⟨Ab, f, hs, hf, ⟨b0, b1⟩, hQ⟩ := h
    obtain ⟨hpk, hp, ho⟩ := hs.pl
    obtain ⟨p1, p2⟩ := nP_le ho
    have key : ∀ i, i ≤ nP Ab → ∀ x acc : Int, x = (i : Int) → acc = sumN (fun p => if bitB bits (p : Int) = true then cv law (f p) else 0) i → J 5 [some (vR k), some (vI bits), some (vI law), some (vI acc), some (vI x)] [] M := by
      refine dn ?_ ?_
      · intro x acc hx ha
        rw [ha]
        exact R_X8_countOf_5 R (an (si_ob hs.1) (an (pl_ob hpk) (bt (show M (M k 0).toNat 0 ≤ x by rw [hp.1]; omega) (R_X8_countOf_68 R hQ))))
      · intro i hi ih x acc hx ha
        subst hx
        have bd0 := cnt_bd ho (fun p hp => (hf p hp).2) bits law (n := i) (by omega)
        have bd := cnt_bd ho (fun p hp => (hf p hp).2) bits law (n := i + 1) (by omega)
        have a20 : AK 1 (k + 20) (i : Int) := ak_of (si_10 hs.1 (by decide) (by decide)) (by omega) (by omega)
        have e20 : M (k + 20) ((i : Int)).toNat = f i := (hf i hi).1
        have fin : bitB bits (i : Int) = true → ∀ v : Int, v = cv law (f i) → J 60 [some (vR k), some (vI bits), some (vI law), some (vI acc), some (vI (i : Int))] [vI v, vI acc] M := by
          intro hb v hv
          refine R_X8_countOf_60 R (R_X8_countOf_62 R (ih _ _ (wn rfl (by omega)) ?_))
          rw [sumN, if_pos hb] at bd ⊢
          show w32 (acc + v) = _
          rw [hv, ha]
          exact w1 (by omega) (by omega) rfl
        refine R_X8_countOf_5 R (an (si_ob hs.1) (an (pl_ob hpk) (bf (show ¬ M (M k 0).toNat 0 ≤ (i : Int) by rw [hp.1]; omega) (an ⟨by omega, by omega, b0, b1⟩ (br (fun hb => bf (by decide) (br (fun q => ?_) (fun q => ?_))) (fun hb => bt rfl (R_X8_countOf_62 R (ih _ _ (wn rfl (by omega)) ?_))))))))
        · have q : ¬ law = 2 := q
          refine R_X8_countOf_36 R (br (fun q2 => ?_) (fun q2 => ?_))
          · have q2 : ¬ law = 0 := q2
            refine R_X8_countOf_50 R (an (si_ob hs.1) (an a20 ?_))
            show (0 ≤ M (k + 20) ((i : Int)).toNat ∧ M (k + 20) ((i : Int)).toNat ≤ 1386) ∧ J 60 _ [vI ((rootN (M (k + 20) ((i : Int)).toNat).toNat : Nat) : Int), vI acc] M
            rw [e20]
            exact ⟨(hf i hi).2, fin hb _ (by unfold cv; rw [if_neg q, if_neg q2])⟩
          · have q2 : law = 0 := Classical.not_not.mp q2
            refine an (si_ob hs.1) (an a20 (fin hb _ ?_))
            rw [e20]
            unfold cv
            rw [if_neg q, if_pos q2]
        · have q : law = 2 := Classical.not_not.mp q
          refine fin hb _ ?_
          unfold cv
          rw [if_pos q]
        · rw [sumN, if_neg hb, ha]
          omega
    exact ⟨Nat.le_of_ble_eq_true rfl, R_X8_countOf_0 R (key 0 (Nat.zero_le _) _ _ rfl rfl)⟩

  · exact h.elim