theorem cnt_0 {c : Nat → Bool} : ∀ {K : Nat}, sumN (fun j => if c j = true then 1 else 0) K = 0 → ∀ j, j < K → c j = false
  | 0, _, j, hj => by omega
  | K + 1, h, j, hj => by
    have b := sumN_bd (f := fun j => if c j = true then 1 else 0) (c := 1) (by decide) (n := K) (fun i _ => by split <;> omega)
    rw [sumN] at h
    have q : c K = false := by
      cases e : c K with
      | false => rfl
      | true => rw [e] at h; simp only [if_pos] at h; omega
    by_cases e : j = K
    · subst e; exact q
    · refine cnt_0 (K := K) ?_ j (by omega)
      rw [q] at h
      exact (by simpa using h)
theorem cnt_pos {c : Nat → Bool} : ∀ {K : Nat}, ¬ sumN (fun j => if c j = true then 1 else 0) K = 0 → ∃ j, j < K ∧ c j = true
  | 0, h => absurd rfl h
  | K + 1, h => by
    by_cases q : c K = true
    · exact ⟨K, by omega, q⟩
    · rw [sumN, if_neg q, Int.add_zero] at h
      obtain ⟨j, hj, hc⟩ := cnt_pos h
      exact ⟨j, by omega, hc⟩
theorem lex_trans {a b c : Nat} (h1 : lexLe a b) (h2 : lexLe b c) : lexLe a c := by
  unfold lexLe at *
  omega
def fwC (s : Nat) (fw : Int) : Prop := popc s < popc fw.toNat ∨ (popc s = popc fw.toNat ∧ (s : Int) < fw)
theorem HI_no {Ab : Mem} {g : Nat → Nat} {K : Nat} {st ia iy fw : Int} (h : HI Ab g K st ia iy fw) (q : ¬ gdH Ab (g K) = true) : HI Ab g (K + 1) st ia iy fw := by
  obtain ⟨h1, ⟨a, h2, h3, h4⟩, ⟨y, h5, h6, h7⟩, h8⟩ := h
  refine ⟨by rw [sumN, if_neg q, h1]; omega, ⟨a, h2, h3, fun t ht => ?_⟩, ⟨y, h5, h6, fun t ht => ?_⟩, fun ⟨j, hj, hg⟩ => ?_⟩
  · rw [h4 t ht]
    constructor
    · intro z j hj hg
      by_cases e : j = K
      · subst e; exact absurd hg q
      · exact z j (by omega) hg
    · intro z j hj
      exact z j (by omega)
  · rw [h7 t ht]
    constructor
    · rintro ⟨j, hj, hg⟩
      exact ⟨j, by omega, hg⟩
    · rintro ⟨j, hj, hg, hb⟩
      by_cases e : j = K
      · subst e; exact absurd hg q
      · exact ⟨j, by omega, hg, hb⟩
  · have jK : j ≠ K := fun e => by subst e; exact q hg
    obtain ⟨f, f1, f2, f3, f4⟩ := h8 ⟨j, by omega, hg⟩
    refine ⟨f, f1, f2, f3, fun i hi hgi => ?_⟩
    have iK : i ≠ K := fun e => by subst e; exact q hgi
    exact f4 i (by omega) hgi
theorem HI_yes {Ab : Mem} {g : Nat → Nat} {K : Nat} {st ia iy fw fw' : Int} (hn : nT Ab ≤ 14) (h : HI Ab g K st ia iy fw) (hl : g K < 2 ^ nT Ab) (q : gdH Ab (g K) = true) (hf : (st = 0 ∨ fwC (g K) fw) ∧ fw' = (g K : Int) ∨ ¬ (st = 0 ∨ fwC (g K) fw) ∧ fw' = fw) : HI Ab g (K + 1) (st + 1) (andI ia (g K)) (orI iy (g K)) fw' := by
  obtain ⟨h1, ⟨a, h2, h3, h4⟩, ⟨y, h5, h6, h7⟩, h8⟩ := h
  have p := p14 hn
  refine ⟨by rw [sumN, if_pos q, h1], ⟨a &&& g K, by rw [h2]; exact andI_n (by omega), and_lt h3 _, fun t ht => ?_⟩, ⟨y ||| g K, by rw [h5]; exact orI_n (by omega) (by omega), or_lt h6 hl, fun t ht => ?_⟩, fun _ => ?_⟩
  · rw [Nat.testBit_and, Bool.and_eq_true, h4 t ht]
    constructor
    · intro z j hj hg
      by_cases e : j = K
      · subst e; exact z.2
      · exact z.1 j (by omega) hg
    · intro z
      exact ⟨fun j hj => z j (by omega), z K (by omega) q⟩
  · rw [Nat.testBit_or, Bool.or_eq_true, h7 t ht]
    constructor
    · rintro (⟨j, hj, hg⟩ | z)
      · exact ⟨j, by omega, hg⟩
      · exact ⟨K, by omega, q, z⟩
    · rintro ⟨j, hj, hg, hb⟩
      by_cases e : j = K
      · subst e; exact Or.inr hb
      · exact Or.inl ⟨j, by omega, hg, hb⟩
  · rcases hf with ⟨c, rfl⟩ | ⟨c, rfl⟩
    · refine ⟨g K, rfl, hl, q, fun j hj hg => ?_⟩
      by_cases e : j = K
      · subst e; exact Or.inr ⟨rfl, Nat.le_refl _⟩
      · rcases c with c | c
        · rw [h1] at c
          have := cnt_0 (c := fun j => gdH Ab (g j)) c j (by omega)
          have t2 : gdH Ab (g j) = false := this
          rw [hg] at t2; exact absurd t2 (by decide)
        · obtain ⟨f, f1, f2, f3, f4⟩ := h8 ⟨j, by omega, hg⟩
          refine lex_trans ?_ (f4 j (by omega) hg)
          unfold fwC at c
          rw [f1, Int.toNat_natCast] at c
          unfold lexLe
          omega
    · have n0 : ¬ st = 0 := fun z => c (Or.inl z)
      rw [h1] at n0
      obtain ⟨i, hi, hgi⟩ := cnt_pos (c := fun j => gdH Ab (g j)) n0
      obtain ⟨f, f1, f2, f3, f4⟩ := h8 ⟨i, hi, hgi⟩
      refine ⟨f, f1, f2, f3, fun j hj hg => ?_⟩
      by_cases e : j = K
      · subst e
        have nf : ¬ fwC (g j) fw' := fun z => c (Or.inr z)
        unfold fwC at nf
        rw [f1, Int.toNat_natCast] at nf
        unfold lexLe
        omega
      · exact f4 j (by omega) hg
def BalRel (M : Mem) (k : Nat) (Ab : Mem) (b : Nat) (n : Int) : Prop := M k 0 = n ∧ ∀ i, i < n.toNat → M (k + 1) i = Ab b i ∧ M (k + 2) i = Ab (b + 1) i ∧ M (k + 3) i = Ab (b + 2) i
def VoteOK (Ab : Mem) (b : Nat) (n : Int) : Prop := (0 ≤ n ∧ n ≤ 9) ∧ ∀ i, i < n.toNat → (0 ≤ Ab b i ∧ Ab b i < 2 ^ nP Ab) ∧ (0 ≤ Ab (b + 1) i ∧ Ab (b + 1) i < 2 ^ nP Ab) ∧ (-9999 ≤ Ab (b + 2) i ∧ Ab (b + 2) i ≤ 9999)
theorem BalRel.kept {M M' : Mem} {k : Nat} {Ab : Mem} {b : Nat} {n : Int} (h : BalRel M k Ab b n) (e : ∀ u v, k ≤ u → u ≤ k + 3 → M' u v = M u v) : BalRel M' k Ab b n := by
  refine ⟨by rw [e _ _ (by omega) (by omega)]; exact h.1, fun i hi => ?_⟩
  rw [e _ _ (by omega) (by omega), e _ _ (by omega) (by omega), e _ _ (by omega) (by omega)]
  exact h.2 i hi
def HolRel (M : Mem) (Ab : Mem) : Prop := M 129 1 = hN Ab (2 ^ nT Ab) ∧ M 129 2 = (hA Ab (2 ^ nT Ab) : Nat) ∧ M 129 3 = (hY Ab (2 ^ nT Ab) : Nat) ∧ (hB Ab (2 ^ nT Ab) ≠ -1 → M 129 4 = hB Ab (2 ^ nT Ab))
def G_X4_isFewer : FN := fun as M Q => match as with
  | [.inr (.inl k), .inl s] => (k = 129 ∧ (0 ≤ s ∧ s < 16384) ∧ 0 ≤ M 129 4 ∧ M 129 4 < 16384) ∧ bq (fwC s.toNat (M 129 4)) Q M
  | _ => False
def G_X4_lookAt : FN := fun as M Q => match as with
  | [.inr (.inl k), .inl s, .inl n] => ∃ Ab, ∃ g : Nat → Nat, ∃ K : Nat, (k = 129 ∧ n = Ab 10 6 ∧ 0 ≤ n ∧ n ≤ 9 ∧ nT Ab ≤ 14 ∧ s = (g K : Int) ∧ g K < 2 ^ nT Ab ∧ K < 16384) ∧ (∀ v, v < nV Ab → M 130 v = ovF Ab v (g K)) ∧ HI Ab g K (M 129 1) (M 129 2) (M 129 3) (M 129 4) ∧
      ∀ M' : Mem, (∀ u v, u ≠ 129 → M' u v = M u v) → HI Ab g (K + 1) (M' 129 1) (M' 129 2) (M' 129 3) (M' 129 4) → Q none M'
  | _ => False
def G_X4_turn : FN := fun as M Q => match as with
  | [.inr (.inl k), .inl t, .inl sn, .inl n] => ∃ o c : Nat → Int, (k = 129 ∧ 0 ≤ n ∧ n ≤ 9 ∧ 0 ≤ t ∧ t < 14 ∧ (sn = 1 ∨ sn = -1)) ∧ (∀ v, v < n.toNat → M 130 v = o v ∧ (-100000 ≤ o v ∧ o v ≤ 100000) ∧ M 131 (14 * v + t.toNat) = c v ∧ -1000 ≤ c v ∧ c v ≤ 1000) ∧
      ∀ M' : Mem, (∀ u v, u ≠ 130 → M' u v = M u v) → (∀ v, v < n.toNat → M' 130 v = o v + sn * c v) → Q none M'
  | _ => False
def G_X4_weighAll : FN := fun as M Q => match as with
  | [.inr (.inl k), .inr (.inl pl), .inr (.inl ba)] => ∃ Ab, (k = 129 ∧ ba = 35) ∧ PL M pl Ab ∧ BalRel M ba Ab 15 (Ab 10 6) ∧ VoteOK Ab 15 (Ab 10 6) ∧
      ∀ M' : Mem, (∀ u v, u ≠ 130 → u ≠ 131 → M' u v = M u v) → (∀ v, v < nV Ab → M' 130 v = ovF Ab v 0) → (∀ v t, v < nV Ab → t < nT Ab → M' 131 (14 * v + t) = sg Ab v t * (Ab 1 t / 2 - Ab 1 t)) → Q none M'
  | _ => False
def G_X4_find : FN := fun as M Q => match as with
  | [.inr (.inl k), .inr (.inl pl), .inr (.inl ba)] => ∃ Ab, (k = 129 ∧ ba = 35) ∧ PL M pl Ab ∧ BalRel M ba Ab 15 (Ab 10 6) ∧ VoteOK Ab 15 (Ab 10 6) ∧
      ∀ M' : Mem, (∀ u v, (u < 129 ∨ 131 < u) → M' u v = M u v) → M' 129 0 = 1 → HolRel M' Ab → Q none M'
  | _ => False
def b_X4_isFewer_0 : List AT := [tx_il 1, tx_call (nf G_J6_bitCount_0f7a4) 1, tx_is 2, tx_al 0, tx_gi 4 4, tx_call (nf G_J6_bitCount_0f7a4) 1, tx_is 3, tx_il 2, tx_il 3, tx_cmp r_lt 31, tx_il 2, tx_il 3, tx_cmp r_ne 35, tx_il 1, tx_al 0, tx_gi 4 4, tx_cmp r_ge 35, tx_fall 31]
def b_X4_isFewer_31 : List AT := [tx_ic 1, tx_fall 36]
def b_X4_isFewer_35 : List AT := [tx_ic 0, tx_fall 36]
def b_X4_isFewer_36 : List AT := [tx_rz]
def R_X4_isFewer (J : JT) (Q : QT) : Prop := (∀ ls st M, wpl J Q b_X4_isFewer_0 ls st M → J 0 ls st M) ∧ (∀ ls st M, wpl J Q b_X4_isFewer_31 ls st M → J 31 ls st M) ∧ (∀ ls st M, wpl J Q b_X4_isFewer_35 ls st M → J 35 ls st M) ∧ (∀ ls st M, wpl J Q b_X4_isFewer_36 ls st M → J 36 ls st M)
theorem R_X4_isFewer_0 {J : JT} {Q : QT} (R : R_X4_isFewer J Q) {ls : Ls} {st : St} {M : Mem} (h : wpl J Q b_X4_isFewer_0 ls st M) : J 0 ls st M := R.1 ls st M h
theorem R_X4_isFewer_31 {J : JT} {Q : QT} (R : R_X4_isFewer J Q) {ls : Ls} {st : St} {M : Mem} (h : wpl J Q b_X4_isFewer_31 ls st M) : J 31 ls st M := R.2.1 ls st M h
theorem R_X4_isFewer_35 {J : JT} {Q : QT} (R : R_X4_isFewer J Q) {ls : Ls} {st : St} {M : Mem} (h : wpl J Q b_X4_isFewer_35 ls st M) : J 35 ls st M := R.2.2.1 ls st M h
theorem R_X4_isFewer_36 {J : JT} {Q : QT} (R : R_X4_isFewer J Q) {ls : Ls} {st : St} {M : Mem} (h : wpl J Q b_X4_isFewer_36 ls st M) : J 36 ls st M := R.2.2.2 ls st M h
def b_X4_lookAt_0 : List AT := [tx_ic 0, tx_is 3, tx_fall 2]
def b_X4_lookAt_2 : List AT := [tx_il 3, tx_il 2, tx_cmp r_ge 23, tx_al 0, tx_gr 4 1, tx_il 3, tx_ia, tx_ifz r_eq 17, tx_rv]
def b_X4_lookAt_17 : List AT := [tx_inc 3 1, tx_fall 2]
def b_X4_lookAt_23 : List AT := [tx_al 0, tx_gi 4 1, tx_ifz r_eq 38, tx_al 0, tx_il 1, tx_callv 4 (nf G_X4_isFewer) 1, tx_ifz r_eq 43, tx_fall 38]
def b_X4_lookAt_38 : List AT := [tx_al 0, tx_il 1, tx_pi 4 4, tx_fall 43]
def b_X4_lookAt_43 : List AT := [tx_al 0, tx_dup, tx_gi 4 1, tx_ic 1, tx_bin f_add, tx_pi 4 1, tx_al 0, tx_dup, tx_gi 4 2, tx_il 1, tx_bin andI, tx_pi 4 2, tx_al 0, tx_dup, tx_gi 4 3, tx_il 1, tx_bin orI, tx_pi 4 3, tx_rv]
def R_X4_lookAt (J : JT) (Q : QT) : Prop := (∀ ls st M, wpl J Q b_X4_lookAt_0 ls st M → J 0 ls st M) ∧ (∀ ls st M, wpl J Q b_X4_lookAt_2 ls st M → J 2 ls st M) ∧ (∀ ls st M, wpl J Q b_X4_lookAt_17 ls st M → J 17 ls st M) ∧ (∀ ls st M, wpl J Q b_X4_lookAt_23 ls st M → J 23 ls st M) ∧ (∀ ls st M, wpl J Q b_X4_lookAt_38 ls st M → J 38 ls st M) ∧ (∀ ls st M, wpl J Q b_X4_lookAt_43 ls st M → J 43 ls st M)
theorem R_X4_lookAt_0 {J : JT} {Q : QT} (R : R_X4_lookAt J Q) {ls : Ls} {st : St} {M : Mem} (h : wpl J Q b_X4_lookAt_0 ls st M) : J 0 ls st M := R.1 ls st M h
theorem R_X4_lookAt_2 {J : JT} {Q : QT} (R : R_X4_lookAt J Q) {ls : Ls} {st : St} {M : Mem} (h : wpl J Q b_X4_lookAt_2 ls st M) : J 2 ls st M := R.2.1 ls st M h
theorem R_X4_lookAt_17 {J : JT} {Q : QT} (R : R_X4_lookAt J Q) {ls : Ls} {st : St} {M : Mem} (h : wpl J Q b_X4_lookAt_17 ls st M) : J 17 ls st M := R.2.2.1 ls st M h
theorem R_X4_lookAt_23 {J : JT} {Q : QT} (R : R_X4_lookAt J Q) {ls : Ls} {st : St} {M : Mem} (h : wpl J Q b_X4_lookAt_23 ls st M) : J 23 ls st M := R.2.2.2.1 ls st M h
theorem R_X4_lookAt_38 {J : JT} {Q : QT} (R : R_X4_lookAt J Q) {ls : Ls} {st : St} {M : Mem} (h : wpl J Q b_X4_lookAt_38 ls st M) : J 38 ls st M := R.2.2.2.2.1 ls st M h
theorem R_X4_lookAt_43 {J : JT} {Q : QT} (R : R_X4_lookAt J Q) {ls : Ls} {st : St} {M : Mem} (h : wpl J Q b_X4_lookAt_43 ls st M) : J 43 ls st M := R.2.2.2.2.2 ls st M h
def b_X4_turn_0 : List AT := [tx_ic 0, tx_is 4, tx_fall 3]
def b_X4_turn_3 : List AT := [tx_il 4, tx_il 3, tx_cmp r_ge 39, tx_al 0, tx_gr 4 1, tx_il 4, tx_dup2, tx_ia, tx_il 2, tx_al 0, tx_gr 4 2, tx_il 4, tx_ic 14, tx_bin f_mul, tx_il 1, tx_bin f_add, tx_ia, tx_bin f_mul, tx_bin f_add, tx_iax, tx_inc 4 1, tx_fall 3]
def b_X4_turn_39 : List AT := [tx_rv]
def R_X4_turn (J : JT) (Q : QT) : Prop := (∀ ls st M, wpl J Q b_X4_turn_0 ls st M → J 0 ls st M) ∧ (∀ ls st M, wpl J Q b_X4_turn_3 ls st M → J 3 ls st M) ∧ (∀ ls st M, wpl J Q b_X4_turn_39 ls st M → J 39 ls st M)
theorem R_X4_turn_0 {J : JT} {Q : QT} (R : R_X4_turn J Q) {ls : Ls} {st : St} {M : Mem} (h : wpl J Q b_X4_turn_0 ls st M) : J 0 ls st M := R.1 ls st M h
theorem R_X4_turn_3 {J : JT} {Q : QT} (R : R_X4_turn J Q) {ls : Ls} {st : St} {M : Mem} (h : wpl J Q b_X4_turn_3 ls st M) : J 3 ls st M := R.2.1 ls st M h
theorem R_X4_turn_39 {J : JT} {Q : QT} (R : R_X4_turn J Q) {ls : Ls} {st : St} {M : Mem} (h : wpl J Q b_X4_turn_39 ls st M) : J 39 ls st M := R.2.2 ls st M h
def b_X4_weighAll_0 : List AT := [tx_ic 0, tx_is 3, tx_fall 2]
def b_X4_weighAll_2 : List AT := [tx_il 3, tx_al 2, tx_gi 0 0, tx_cmp r_ge 147, tx_al 0, tx_gr 4 1, tx_il 3, tx_al 2, tx_gr 0 3, tx_il 3, tx_ia, tx_neg, tx_iax, tx_ic 0, tx_is 4, tx_fall 26]
def b_X4_weighAll_26 : List AT := [tx_il 4, tx_al 1, tx_gi 6 3, tx_cmp r_ge 141, tx_al 1, tx_gr 6 3, tx_il 4, tx_ia, tx_al 2, tx_gr 0 1, tx_il 3, tx_ia, tx_call (nf G_X10_isIn) 2, tx_ifz r_eq 58, tx_ic 1, tx_fall 82]
def b_X4_weighAll_58 : List AT := [tx_al 1, tx_gr 6 3, tx_il 4, tx_ia, tx_al 2, tx_gr 0 2, tx_il 3, tx_ia, tx_call (nf G_X10_isIn) 2, tx_ifz r_eq 81, tx_ic (-1), tx_fall 82]
def b_X4_weighAll_81 : List AT := [tx_ic 0, tx_fall 82]
def b_X4_weighAll_82 : List AT := tx_is 5 :: tx_al 0 :: tx_gr 4 1 :: tx_il 3 :: tx_dup2 :: tx_ia :: tx_il 5 :: tx_al 1 :: tx_gr 6 4 :: tx_il 4 :: tx_ia :: tx_bin f_mul :: tx_bin f_add :: tx_iax :: tx_al 0 :: tx_gr 4 2 :: tx_il 3 :: tx_ic 14 :: tx_bin f_mul :: tx_il 4 :: tx_bin f_add :: tx_il 5 :: tx_al 1 :: tx_gr 6 4 :: tx_il 4 :: tx_ia :: tx_ic 2 :: tx_div :: tx_al 1 :: tx_gr 6 4 :: tx_il 4 :: tx_ia :: tx_bin f_sub :: tx_bin f_mul :: tx_iax :: tx_inc 4 1 :: tx_fall 26 :: []
def b_X4_weighAll_141 : List AT := [tx_inc 3 1, tx_fall 2]
def b_X4_weighAll_147 : List AT := [tx_rv]
def R_X4_weighAll (J : JT) (Q : QT) : Prop := (∀ ls st M, wpl J Q b_X4_weighAll_0 ls st M → J 0 ls st M) ∧ (∀ ls st M, wpl J Q b_X4_weighAll_2 ls st M → J 2 ls st M) ∧ (∀ ls st M, wpl J Q b_X4_weighAll_26 ls st M → J 26 ls st M) ∧ (∀ ls st M, wpl J Q b_X4_weighAll_58 ls st M → J 58 ls st M) ∧ (∀ ls st M, wpl J Q b_X4_weighAll_81 ls st M → J 81 ls st M) ∧ (∀ ls st M, wpl J Q b_X4_weighAll_82 ls st M → J 82 ls st M) ∧ (∀ ls st M, wpl J Q b_X4_weighAll_141 ls st M → J 141 ls st M) ∧ (∀ ls st M, wpl J Q b_X4_weighAll_147 ls st M → J 147 ls st M)
theorem R_X4_weighAll_0 {J : JT} {Q : QT} (R : R_X4_weighAll J Q) {ls : Ls} {st : St} {M : Mem} (h : wpl J Q b_X4_weighAll_0 ls st M) : J 0 ls st M := R.1 ls st M h
theorem R_X4_weighAll_2 {J : JT} {Q : QT} (R : R_X4_weighAll J Q) {ls : Ls} {st : St} {M : Mem} (h : wpl J Q b_X4_weighAll_2 ls st M) : J 2 ls st M := R.2.1 ls st M h
theorem R_X4_weighAll_26 {J : JT} {Q : QT} (R : R_X4_weighAll J Q) {ls : Ls} {st : St} {M : Mem} (h : wpl J Q b_X4_weighAll_26 ls st M) : J 26 ls st M := R.2.2.1 ls st M h
theorem R_X4_weighAll_58 {J : JT} {Q : QT} (R : R_X4_weighAll J Q) {ls : Ls} {st : St} {M : Mem} (h : wpl J Q b_X4_weighAll_58 ls st M) : J 58 ls st M := R.2.2.2.1 ls st M h
theorem R_X4_weighAll_81 {J : JT} {Q : QT} (R : R_X4_weighAll J Q) {ls : Ls} {st : St} {M : Mem} (h : wpl J Q b_X4_weighAll_81 ls st M) : J 81 ls st M := R.2.2.2.2.1 ls st M h
theorem R_X4_weighAll_82 {J : JT} {Q : QT} (R : R_X4_weighAll J Q) {ls : Ls} {st : St} {M : Mem} (h : wpl J Q b_X4_weighAll_82 ls st M) : J 82 ls st M := R.2.2.2.2.2.1 ls st M h
theorem R_X4_weighAll_141 {J : JT} {Q : QT} (R : R_X4_weighAll J Q) {ls : Ls} {st : St} {M : Mem} (h : wpl J Q b_X4_weighAll_141 ls st M) : J 141 ls st M := R.2.2.2.2.2.2.1 ls st M h
theorem R_X4_weighAll_147 {J : JT} {Q : QT} (R : R_X4_weighAll J Q) {ls : Ls} {st : St} {M : Mem} (h : wpl J Q b_X4_weighAll_147 ls st M) : J 147 ls st M := R.2.2.2.2.2.2.2 ls st M h
def b_X4_find_0 : List AT := [tx_al 0, tx_ic 0, tx_pi 4 1, tx_al 0, tx_al 1, tx_callv 6 (nf G_X6_allThings) 0, tx_pi 4 2, tx_al 0, tx_ic 0, tx_pi 4 3, tx_al 0, tx_al 1, tx_al 2, tx_callv 4 (nf G_X4_weighAll) 2, tx_ic 0, tx_is 3, tx_al 0, tx_il 3, tx_al 2, tx_gi 0 0, tx_callv 4 (nf G_X4_lookAt) 2, tx_ic 1, tx_is 4, tx_fall 38]
def b_X4_find_38 : List AT := [tx_il 4, tx_ic 1, tx_al 1, tx_gi 6 3, tx_bin shlI, tx_cmp r_ge 102, tx_il 4, tx_call (nf G_X10_lowestOf) 1, tx_is 5, tx_il 3, tx_ic 1, tx_il 5, tx_bin shlI, tx_bin xorI, tx_is 3, tx_al 0, tx_il 5, tx_il 5, tx_il 3, tx_call (nf G_X10_isIn) 2, tx_ifz r_eq 79, tx_ic 1, tx_fall 80]
def b_X4_find_79 : List AT := [tx_ic (-1), tx_fall 80]
def b_X4_find_80 : List AT := [tx_al 2, tx_gi 0 0, tx_callv 4 (nf G_X4_turn) 3, tx_al 0, tx_il 3, tx_al 2, tx_gi 0 0, tx_callv 4 (nf G_X4_lookAt) 2, tx_inc 4 1, tx_fall 38]
def b_X4_find_102 : List AT := [tx_al 0, tx_ic 1, tx_pz 4 0, tx_rv]
def R_X4_find (J : JT) (Q : QT) : Prop := (∀ ls st M, wpl J Q b_X4_find_0 ls st M → J 0 ls st M) ∧ (∀ ls st M, wpl J Q b_X4_find_38 ls st M → J 38 ls st M) ∧ (∀ ls st M, wpl J Q b_X4_find_79 ls st M → J 79 ls st M) ∧ (∀ ls st M, wpl J Q b_X4_find_80 ls st M → J 80 ls st M) ∧ (∀ ls st M, wpl J Q b_X4_find_102 ls st M → J 102 ls st M)
theorem R_X4_find_0 {J : JT} {Q : QT} (R : R_X4_find J Q) {ls : Ls} {st : St} {M : Mem} (h : wpl J Q b_X4_find_0 ls st M) : J 0 ls st M := R.1 ls st M h
theorem R_X4_find_38 {J : JT} {Q : QT} (R : R_X4_find J Q) {ls : Ls} {st : St} {M : Mem} (h : wpl J Q b_X4_find_38 ls st M) : J 38 ls st M := R.2.1 ls st M h
theorem R_X4_find_79 {J : JT} {Q : QT} (R : R_X4_find J Q) {ls : Ls} {st : St} {M : Mem} (h : wpl J Q b_X4_find_79 ls st M) : J 79 ls st M := R.2.2.1 ls st M h
theorem R_X4_find_80 {J : JT} {Q : QT} (R : R_X4_find J Q) {ls : Ls} {st : St} {M : Mem} (h : wpl J Q b_X4_find_80 ls st M) : J 80 ls st M := R.2.2.2.1 ls st M h
theorem R_X4_find_102 {J : JT} {Q : QT} (R : R_X4_find J Q) {ls : Ls} {st : St} {M : Mem} (h : wpl J Q b_X4_find_102 ls st M) : J 102 ls st M := R.2.2.2.2 ls st M h
theorem o129 : OB 129 4 := ⟨rfl, rfl⟩
theorem o35 : OB 35 0 := ⟨rfl, rfl⟩
theorem sh130 : SH 130 = (1, 9, 0, 0) := rfl
theorem sh131 : SH 131 = (1, 126, 0, 0) := rfl
theorem sg_bd (Ab : Mem) (v t : Nat) : sg Ab v t = 1 ∨ sg Ab v t = -1 ∨ sg Ab v t = 0 := by
  unfold sg
  split
  · exact Or.inl rfl
  · split
    · exact Or.inr (Or.inl rfl)
    · exact Or.inr (Or.inr rfl)
theorem P_X4_isFewer {J : JT} {Q : QT} (R : R_X4_isFewer J Q) {as : List Vl} {M : Mem} (h : nf G_X4_isFewer as M Q) : (enL as).length ≤ 4 ∧ J 0 (padL 4 (enL as)) [] M := by
  unfold nf G_X4_isFewer at h
  split at h
  · rename_i k s
    obtain ⟨⟨rfl, hs, hf⟩, hQ⟩ := h
    obtain ⟨j, rfl⟩ : ∃ j : Nat, s = (j : Int) := ⟨s.toNat, by omega⟩
    have no : ¬ fwC j (M 129 4) → J 35 [some (vR 129), some (vI (j : Int)), some (vI (popc j : Nat)), some (vI (popc (M 129 4).toNat : Nat))] [] M := fun q => R_X4_isFewer_35 R (R_X4_isFewer_36 R (an (Or.inl rfl) (hQ.2 q)))
    have yes : fwC j (M 129 4) → J 31 [some (vR 129), some (vI (j : Int)), some (vI (popc j : Nat)), some (vI (popc (M 129 4).toNat : Nat))] [] M := fun q => R_X4_isFewer_31 R (R_X4_isFewer_36 R (an (Or.inr rfl) (hQ.1 q)))
    refine ⟨Nat.le_of_ble_eq_true rfl, R_X4_isFewer_0 R (an hs (an o129 (an hf (br (fun q => yes ?_) (fun q => br (fun q2 => no ?_) (fun q2 => an o129 (br (fun q3 => no ?_) (fun q3 => yes ?_))))))))⟩
    · have q : ((popc j : Nat) : Int) < ((popc (M 129 4).toNat : Nat) : Int) := q
      exact Or.inl (by omega)
    · have q : ¬ ((popc j : Nat) : Int) < ((popc (M 129 4).toNat : Nat) : Int) := q
      have q2 : ¬ ((popc j : Nat) : Int) = ((popc (M 129 4).toNat : Nat) : Int) := q2
      unfold fwC; omega
    · have q : ¬ ((popc j : Nat) : Int) < ((popc (M 129 4).toNat : Nat) : Int) := q
      have q3 : M 129 4 ≤ (j : Int) := q3
      unfold fwC; omega
    · have q2 : ¬ ¬ ((popc j : Nat) : Int) = ((popc (M 129 4).toNat : Nat) : Int) := q2
      have q3 : ¬ M 129 4 ≤ (j : Int) := q3
      unfold fwC; omega
  · exact h.elim
theorem P_X4_lookAt {J : JT} {Q : QT} (R : R_X4_lookAt J Q) {as : List Vl} {M : Mem} (h : nf G_X4_lookAt as M Q) : (enL as).length ≤ 4 ∧ J 0 (padL 4 (enL as)) [] M := by
  unfold nf G_X4_lookAt at h
  split at h
  · rename_i k s n
    obtain ⟨Ab, g, K, ⟨rfl, hn, n0, n9, h14, hs, hl, hK⟩, hv, hi, hQ⟩ := h
    subst hs
    have p := p14 h14
    have stb : 0 ≤ M 129 1 ∧ M 129 1 ≤ (K : Int) * 1 := by rw [hi.1]; exact sumN_bd (by decide) (fun i _ => by split <;> omega)
    have fin : ∀ (fw' : Int) (M1 : Mem) (z : Option Vl), gdH Ab (g K) = true → ((M 129 1 = 0 ∨ fwC (g K) (M 129 4)) ∧ fw' = (g K : Int) ∨ ¬ (M 129 1 = 0 ∨ fwC (g K) (M 129 4)) ∧ fw' = M 129 4) → (∀ u v, ¬ (u = 129 ∧ v = 4) → M1 u v = M u v) → M1 129 4 = fw' → J 43 [some (vR 129), some (vI (g K : Int)), some (vI n), z] [] M1 := by
      intro fw' M1 z hg hf m1 m4
      refine R_X4_lookAt_43 R (an o129 (an o129 (an o129 (an o129 (an o129 (an o129 (hQ _ (fun u v hu => ?_) ?_)))))))
      · rw [up_ne (by omega), up_ne (by omega), up_ne (by omega)]; exact m1 u v (by omega)
      · have r := HI_yes h14 hi hl hg hf
        generalize hX : up M1 129 1 (f_add (M1 129 1) 1) = X
        generalize hY2 : up X 129 2 (andI (X 129 2) (g K : Int)) = Y
        have x1 : X 129 1 = M 129 1 + 1 := by
          rw [← hX, up_eq, m1 _ _ (by decide)]
          exact w1 (by omega) (by omega) rfl
        have x2 : X 129 2 = M 129 2 := by rw [← hX, up_ne (by decide)]; exact m1 _ _ (by decide)
        have x3 : X 129 3 = M 129 3 := by rw [← hX, up_ne (by decide)]; exact m1 _ _ (by decide)
        have x4 : X 129 4 = fw' := by rw [← hX, up_ne (by decide)]; exact m4
        rw [up_eq, up_ne (by decide), up_ne (by decide), up_ne (by decide), ← hY2, up_ne (by decide), up_eq, up_ne (by decide), up_ne (by decide), x1, x2, x3, x4]
        exact r
    have key : ∀ i, i ≤ nV Ab → ∀ x : Int, x = (i : Int) → (∀ v, v < i → ovF Ab v (g K) = 0) → J 2 [some (vR 129), some (vI (g K : Int)), some (vI n), some (vI x)] [] M := by
      refine dn ?_ ?_
      · intro x hx h1
        have hg : gdH Ab (g K) = true := by unfold gdH; exact decide_eq_true h1
        have e : ((nV Ab : Nat) : Int) = n := by unfold nV; omega
        have do38 : ∀ z, (M 129 1 = 0 ∨ fwC (g K) (M 129 4)) → J 38 [some (vR 129), some (vI (g K : Int)), some (vI n), z] [] M := fun z c => R_X4_lookAt_38 R (an o129 (fin _ _ _ hg (Or.inl ⟨c, rfl⟩) (fun u v hu => up_ne (by omega)) up_eq))
        refine R_X4_lookAt_2 R (bt (show n ≤ x by omega) (R_X4_lookAt_23 R (an o129 (br (fun q => do38 _ (Or.inl q)) (fun q => an o129 (an ⟨rfl, ⟨by omega, by omega⟩, ?_⟩ (br (fun q2 => bf (by decide) (do38 _ (Or.inr q2))) (fun q2 => bt rfl (fin _ _ _ hg (Or.inr ⟨fun z => ?_, rfl⟩) (fun _ _ _ => rfl) rfl)))))))))
        · have q : ¬ M 129 1 = 0 := q
          rw [hi.1] at q
          obtain ⟨j, hj, hgj⟩ := cnt_pos (c := fun j => gdH Ab (g j)) q
          obtain ⟨f, f1, f2, -⟩ := hi.2.2.2 ⟨j, hj, hgj⟩
          rw [f1]
          omega
        · rcases z with z | z
          · exact q z
          · exact q2 z
      · intro i hi2 ih x hx h1
        subst hx
        have e : ((nV Ab : Nat) : Int) = n := by unfold nV; omega
        refine R_X4_lookAt_2 R (bf (show ¬ n ≤ (i : Int) by omega) (an o129 (an (ak_of sh130 (by omega) (by omega)) (br (fun q => R_X4_lookAt_17 R (ih _ (wn rfl (by omega)) (fun v hv2 => ?_))) (fun q => hQ M (fun _ _ _ => rfl) (HI_no hi (fun z => ?_)))))))
        · have q : M 130 i = 0 := q
          rw [hv i hi2] at q
          by_cases e2 : v = i
          · subst e2; exact q
          · exact h1 v (by omega)
        · have q : ¬ M 130 i = 0 := q
          rw [hv i hi2] at q
          exact q (of_decide_eq_true z i hi2)
    exact ⟨Nat.le_of_ble_eq_true rfl, R_X4_lookAt_0 R (key 0 (Nat.zero_le _) _ rfl (fun v hv2 => by omega))⟩
  · exact h.elim
theorem P_X4_turn {J : JT} {Q : QT} (R : R_X4_turn J Q) {as : List Vl} {M : Mem} (h : nf G_X4_turn as M Q) : (enL as).length ≤ 5 ∧ J 0 (padL 5 (enL as)) [] M := by
  unfold nf G_X4_turn at h
  split at h
  · rename_i k t sn n
    obtain ⟨o, c, ⟨rfl, n0, n9, t0, t14, hsn⟩, hv, hQ⟩ := h
    obtain ⟨j, rfl⟩ : ∃ j : Nat, t = (j : Int) := ⟨t.toNat, by omega⟩
    have key : ∀ i, i ≤ n.toNat → ∀ (x : Int) (M' : Mem), x = (i : Int) → (∀ u v, u ≠ 130 → M' u v = M u v) → (∀ v, v < n.toNat → M' 130 v = if v < i then o v + sn * c v else o v) → J 3 [some (vR 129), some (vI (j : Int)), some (vI sn), some (vI n), some (vI x)] [] M' := by
      refine dn ?_ ?_
      · intro x M' hx h1 h2
        exact R_X4_turn_3 R (bt (show n ≤ x by omega) (R_X4_turn_39 R (hQ M' h1 (fun v hv2 => by rw [h2 v hv2, if_pos hv2]))))
      · intro i hi ih x M' hx h1 h2
        subst hx
        obtain ⟨-, b2, b3, b4⟩ := hv i hi
        have ei : f_add (f_mul (i : Int) 14) (j : Int) = ((14 * i + j : Nat) : Int) := by
          unfold f_add f_mul
          rw [w1 (x := (i : Int) * 14) (y := (i : Int) * 14) (by omega) (by omega) rfl]
          exact w1 (by omega) (by omega) (by omega)
        refine R_X4_turn_3 R (bf (show ¬ n ≤ (i : Int) by omega) (an o129 (an (ak_of sh130 (by omega) (by omega)) (an o129 (an (show AK 1 131 (f_add (f_mul (i : Int) 14) (j : Int)) by rw [ei]; exact ak_of sh131 (by omega) (by omega)) (an (ak_of sh130 (by omega) (by omega)) ?_))))))
        refine ih _ _ (wn rfl (by omega)) (fun u v hu => by rw [up_ne (by omega)]; exact h1 u v hu) (fun v hv2 => ?_)
        rw [Int.toNat_natCast]
        by_cases e : v = i
        · subst e
          rw [up_eq, if_pos (by omega)]
          show f_add (M' 130 v) (f_mul sn (M' 131 (f_add (f_mul (v : Int) 14) (j : Int)).toNat)) = _
          rw [ei, Int.toNat_natCast, h2 v hv2, if_neg (by omega), h1 _ _ (by decide), show M 131 (14 * v + j) = c v from b3]
          have e2 : f_mul sn (c v) = sn * c v := by
            rcases hsn with rfl | rfl <;> exact w1 (by omega) (by omega) rfl
          rw [e2]
          rcases hsn with rfl | rfl <;> exact w1 (by omega) (by omega) rfl
        · rw [up_ne (by omega), h2 v hv2]
          by_cases e2 : v < i
          · rw [if_pos e2, if_pos (by omega)]
          · rw [if_neg e2, if_neg (by omega)]
    exact ⟨Nat.le_of_ble_eq_true rfl, R_X4_turn_0 R (key 0 (Nat.zero_le _) _ _ rfl (fun _ _ _ => rfl) (fun v hv2 => by rw [if_neg (by omega)]; exact (hv v hv2).1))⟩

  · exact h.elim