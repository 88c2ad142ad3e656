/-! Sitting: isPassed, passedBitsAt, copyFrom; Chronicle -/
def pbN (c : Nat → Bool) : Nat → Nat
  | 0 => 0
  | m + 1 => pbN c m + if c m = true then 2 ^ m else 0
theorem pbN_lt (c : Nat → Bool) : ∀ n, pbN c n < 2 ^ n
  | 0 => by simp [pbN]
  | n + 1 => by
    have ih := pbN_lt c n
    rw [pbN, Nat.pow_succ]
    split <;> omega
theorem pbN_cong {c d : Nat → Bool} : ∀ {n : Nat}, (∀ i, i < n → c i = d i) → pbN c n = pbN d n
  | 0, _ => rfl
  | n + 1, h => by rw [pbN, pbN, pbN_cong (fun i hi => h i (by omega)), h n (by omega)]
theorem or_pow {a i : Nat} (h : a < 2 ^ i) : a ||| 2 ^ i = a + 2 ^ i := by
  have := Nat.two_pow_add_eq_or_of_lt h 1
  rw [Nat.mul_one] at this
  rw [Nat.or_comm, ← this]
  omega
theorem or_step {c : Nat → Bool} {i : Nat} (hi : i < 20) (h : c i = true) : orI ((pbN c i : Nat) : Int) (shlI 1 (i : Int)) = ((pbN c (i + 1) : Nat) : Int) := by
  have h1 := pbN_lt c i
  have h2 : 2 ^ i ≤ 2 ^ 20 := Nat.pow_le_pow_right (by decide) (by omega)
  rw [shl1 i (by omega), orI_n (by omega) (by omega), or_pow h1, pbN, if_pos h]
def G_X8_isPassed : FN := fun as M Q => match as with
  | [.inr (.inl k), .inl mo, .inl law] => ∃ Ab, ∃ f : Nat → Int, SP M k Ab ∧ (∀ p, p < nP Ab → M (k + 20) p = f p ∧ 0 ≤ f p ∧ f p ≤ 1386) ∧ (0 ≤ mo ∧ mo < Ab 10 4) ∧ bq (cntF Ab f (Ab 9 mo.toNat) law < cntF Ab f (Ab 8 mo.toNat) law) Q M
  | _ => False
def G_X8_passedBitsAt : FN := fun as M Q => match as with
  | [.inr (.inl k), .inl m] => ∃ Ab, ∃ f : Nat → Int, SP M k Ab ∧ (∀ p, p < nP Ab → M (k + 20) p = f p ∧ 0 ≤ f p ∧ f p ≤ 1386) ∧ Q (some (vI (pbN (fun i => decide (Ab 7 i = m ∧ cntF Ab f (Ab 9 i) (Ab 10 0) < cntF Ab f (Ab 8 i) (Ab 10 0))) (nM Ab) : Nat))) M
  | _ => False
def G_X8_copyFrom : FN := fun as M Q => match as with
  | [.inr (.inl k), .inr (.inl j)] => ∃ Ab wo σ, SP M j Ab ∧ SitRel M j Ab wo σ ∧ (SitAt k ∧ k ≠ j) ∧ ∀ M' : Mem, (∀ u v, (u < k ∨ (k < u ∧ u < k + 17) ∨ k + 22 < u) → M' u v = M u v) → SP M' k Ab → SitRel M' k Ab wo σ → Q none M'
  | _ => False
def b_X8_isPassed_0 : List AT := [tx_al 0, tx_gm 8 0, tx_il 1, tx_callv 6 (nf G_X6_hasMotion) 1, tx_ifz r_eq 46, tx_al 0, tx_al 0, tx_gm 8 0, tx_gr 6 9, tx_il 1, tx_ia, tx_il 2, tx_callv 8 (nf G_X8_countOf) 2, tx_al 0, tx_al 0, tx_gm 8 0, tx_gr 6 10, tx_il 1, tx_ia, tx_il 2, tx_callv 8 (nf G_X8_countOf) 2, tx_cmp r_le 46, tx_ic 1, tx_fall 47]
def b_X8_isPassed_46 : List AT := [tx_ic 0, tx_fall 47]
def b_X8_isPassed_47 : List AT := [tx_rz]
def R_X8_isPassed (J : JT) (Q : QT) : Prop := (∀ ls st M, wpl J Q b_X8_isPassed_0 ls st M → J 0 ls st M) ∧ (∀ ls st M, wpl J Q b_X8_isPassed_46 ls st M → J 46 ls st M) ∧ (∀ ls st M, wpl J Q b_X8_isPassed_47 ls st M → J 47 ls st M)
theorem R_X8_isPassed_0 {J : JT} {Q : QT} (R : R_X8_isPassed J Q) {ls : Ls} {st : St} {M : Mem} (h : wpl J Q b_X8_isPassed_0 ls st M) : J 0 ls st M := R.1 ls st M h
theorem R_X8_isPassed_46 {J : JT} {Q : QT} (R : R_X8_isPassed J Q) {ls : Ls} {st : St} {M : Mem} (h : wpl J Q b_X8_isPassed_46 ls st M) : J 46 ls st M := R.2.1 ls st M h
theorem R_X8_isPassed_47 {J : JT} {Q : QT} (R : R_X8_isPassed J Q) {ls : Ls} {st : St} {M : Mem} (h : wpl J Q b_X8_isPassed_47 ls st M) : J 47 ls st M := R.2.2 ls st M h
def b_X8_passedBitsAt_0 : List AT := [tx_ic 0, tx_is 2, tx_ic 0, tx_is 3, tx_fall 4]
def b_X8_passedBitsAt_4 : List AT := [tx_il 3, tx_al 0, tx_gm 8 0, tx_gi 6 10, tx_cmp r_ge 55, tx_al 0, tx_gm 8 0, tx_gr 6 8, tx_il 3, tx_ia, tx_il 1, tx_cmp r_ne 49, tx_al 0, tx_il 3, tx_al 0, tx_gm 8 0, tx_gi 6 14, tx_callv 8 (nf G_X8_isPassed) 2, tx_ifz r_eq 49, tx_il 2, tx_ic 1, tx_il 3, tx_bin shlI, tx_bin orI, tx_is 2, tx_fall 49]
def b_X8_passedBitsAt_49 : List AT := [tx_inc 3 1, tx_fall 4]
def b_X8_passedBitsAt_55 : List AT := [tx_il 2, tx_ri]
def R_X8_passedBitsAt (J : JT) (Q : QT) : Prop := (∀ ls st M, wpl J Q b_X8_passedBitsAt_0 ls st M → J 0 ls st M) ∧ (∀ ls st M, wpl J Q b_X8_passedBitsAt_4 ls st M → J 4 ls st M) ∧ (∀ ls st M, wpl J Q b_X8_passedBitsAt_49 ls st M → J 49 ls st M) ∧ (∀ ls st M, wpl J Q b_X8_passedBitsAt_55 ls st M → J 55 ls st M)
theorem R_X8_passedBitsAt_0 {J : JT} {Q : QT} (R : R_X8_passedBitsAt J Q) {ls : Ls} {st : St} {M : Mem} (h : wpl J Q b_X8_passedBitsAt_0 ls st M) : J 0 ls st M := R.1 ls st M h
theorem R_X8_passedBitsAt_4 {J : JT} {Q : QT} (R : R_X8_passedBitsAt J Q) {ls : Ls} {st : St} {M : Mem} (h : wpl J Q b_X8_passedBitsAt_4 ls st M) : J 4 ls st M := R.2.1 ls st M h
theorem R_X8_passedBitsAt_49 {J : JT} {Q : QT} (R : R_X8_passedBitsAt J Q) {ls : Ls} {st : St} {M : Mem} (h : wpl J Q b_X8_passedBitsAt_49 ls st M) : J 49 ls st M := R.2.2.1 ls st M h
theorem R_X8_passedBitsAt_55 {J : JT} {Q : QT} (R : R_X8_passedBitsAt J Q) {ls : Ls} {st : St} {M : Mem} (h : wpl J Q b_X8_passedBitsAt_55 ls st M) : J 55 ls st M := R.2.2.2 ls st M h
def b_X8_copyFrom_0 : List AT := [tx_al 0, tx_al 1, tx_gm 8 0, tx_pm 8 0, tx_al 0, tx_al 1, tx_gm 8 1, tx_pm 8 1, tx_al 1, tx_gr 8 17, tx_ic 0, tx_al 0, tx_gr 8 17, tx_ic 0, tx_ic 14, tx_acp, tx_al 1, tx_gr 8 18, tx_ic 0, tx_al 0, tx_gr 8 18, tx_ic 0, tx_ic 14, tx_acp, tx_al 1, tx_gr 8 19, tx_ic 0, tx_al 0, tx_gr 8 19, tx_ic 0, tx_ic 14, tx_acp, tx_al 1, tx_gr 8 20, tx_ic 0, tx_al 0, tx_gr 8 20, tx_ic 0, tx_ic 10, tx_acp, tx_al 1, tx_gr 8 21, tx_ic 0, tx_al 0, tx_gr 8 21, tx_ic 0, tx_ic 10, tx_acp, tx_al 1, tx_gr 8 22, tx_ic 0, tx_al 0, tx_gr 8 22, tx_ic 0, tx_ic 10, tx_acp, tx_rv]
def R_X8_copyFrom (J : JT) (Q : QT) : Prop := (∀ ls st M, wpl J Q b_X8_copyFrom_0 ls st M → J 0 ls st M)
theorem R_X8_copyFrom_0 {J : JT} {Q : QT} (R : R_X8_copyFrom J Q) {ls : Ls} {st : St} {M : Mem} (h : wpl J Q b_X8_copyFrom_0 ls st M) : J 0 ls st M := R ls st M h
theorem mo_bits {Ab : Mem} (ho : HallOK Ab) {m : Nat} (hm : m < nM Ab) : (0 ≤ Ab 8 m ∧ Ab 8 m < 2147483648) ∧ (0 ≤ Ab 9 m ∧ Ab 9 m < 2147483648) := by
  have h := ho.2.2.2.2.2.2.2.2 m hm
  have h10 := nP_le ho
  have h2 : 2 ^ nP Ab ≤ 2 ^ 10 := Nat.pow_le_pow_right (by decide) (by omega)
  have h3 : ((2 ^ nP Ab : Nat) : Int) ≤ ((2 ^ 10 : Nat) : Int) := by omega
  have e : ((2 ^ nP Ab : Nat) : Int) = (2 : Int) ^ nP Ab := by simp
  rw [e] at h3
  omega
theorem P_X8_isPassed {J : JT} {Q : QT} (R : R_X8_isPassed J Q) {as : List Vl} {M : Mem} (h : nf G_X8_isPassed as M Q) : (enL as).length ≤ 3 ∧ J 0 (padL 3 (enL as)) [] M := by
  unfold nf G_X8_isPassed at h
  split at h
  · rename_i k mo law
    obtain ⟨Ab, f, hs, hf, ⟨m0, m1⟩, hQ⟩ := h
    obtain ⟨hpk, hp, ho⟩ := hs.pl
    obtain ⟨q1, q2⟩ := nM_le ho
    have hm : mo.toNat < nM Ab := by omega
    obtain ⟨e1, e2, e3⟩ := hp.2.2.2.2.2.2.2.2 _ hm
    obtain ⟨b1, b2⟩ := mo_bits ho hm
    have no : ¬ (cntF Ab f (Ab 9 mo.toNat) law < cntF Ab f (Ab 8 mo.toNat) law) → J 46 [some (vR k), some (vI mo), some (vI law)] [] M := fun q => R_X8_isPassed_46 R (R_X8_isPassed_47 R (an (Or.inl rfl) (hQ.2 q)))
    refine ⟨Nat.le_of_ble_eq_true rfl, R_X8_isPassed_0 R (an (si_ob hs.1) (an (pl_ob hpk) ⟨Ab, ⟨hpk, hp, ho⟩, br (fun q => bf (by decide) (an (si_ob hs.1) (an (pl_ob hpk) (an (ak_of (pl_9 hpk) m0 (by omega)) (an (si_ob hs.1) ⟨Ab, f, hs, hf, ?_, an (si_ob hs.1) (an (pl_ob hpk) (an (ak_of (pl_10 hpk) m0 (by omega)) (an (si_ob hs.1) ⟨Ab, f, hs, hf, ?_, ?_⟩)))⟩))))) (fun q => absurd ⟨m0, m1⟩ q)⟩))⟩
    · rw [e2]; exact b1
    · rw [e3]; exact b2
    · rw [e2, e3]
      refine br (fun q => no (fun z => ?_)) (fun q => R_X8_isPassed_47 R (an (Or.inr rfl) (hQ.1 ?_)))
      · have q : cntF Ab f (Ab 8 mo.toNat) law ≤ cntF Ab f (Ab 9 mo.toNat) law := q
        omega
      · have q : ¬ cntF Ab f (Ab 8 mo.toNat) law ≤ cntF Ab f (Ab 9 mo.toNat) law := q
        omega
  · exact h.elim
theorem P_X8_passedBitsAt {J : JT} {Q : QT} (R : R_X8_passedBitsAt J Q) {as : List Vl} {M : Mem} (h : nf G_X8_passedBitsAt as M Q) : (enL as).length ≤ 4 ∧ J 0 (padL 4 (enL as)) [] M := by
  unfold nf G_X8_passedBitsAt at h
  split at h
  · rename_i k m
    obtain ⟨Ab, f, hs, hf, hQ⟩ := h
    obtain ⟨hpk, hp, ho⟩ := hs.pl
    obtain ⟨q1, q2⟩ := nM_le ho
    have key : ∀ i, i ≤ nM Ab → ∀ x acc : Int, x = (i : Int) → acc = ((pbN (fun i => decide (Ab 7 i = m ∧ cntF Ab f (Ab 9 i) (Ab 10 0) < cntF Ab f (Ab 8 i) (Ab 10 0))) i : Nat) : Int) → J 4 [some (vR k), some (vI m), some (vI acc), some (vI x)] [] M := by
      refine dn ?_ ?_
      · intro x acc hx ha
        rw [ha]
        exact R_X8_passedBitsAt_4 R (an (si_ob hs.1) (an (pl_ob hpk) (bt (show M (M k 0).toNat 10 ≤ x by rw [hp.2.2.2.1]; omega) (R_X8_passedBitsAt_55 R hQ))))
      · intro i hi ih x acc hx ha
        subst hx
        obtain ⟨e1, e2, e3⟩ := hp.2.2.2.2.2.2.2.2 i hi
        have skip : ¬ (Ab 7 i = m ∧ cntF Ab f (Ab 9 i) (Ab 10 0) < cntF Ab f (Ab 8 i) (Ab 10 0)) → J 49 [some (vR k), some (vI m), some (vI acc), some (vI (i : Int))] [] M := by
          intro hc
          refine R_X8_passedBitsAt_49 R (ih _ _ (wn rfl (by omega)) ?_)
          rw [pbN, if_neg (by simpa using hc), ha]
          rfl
        refine R_X8_passedBitsAt_4 R (an (si_ob hs.1) (an (pl_ob hpk) (bf (show ¬ M (M k 0).toNat 10 ≤ (i : Int) by rw [hp.2.2.2.1]; omega) (an (si_ob hs.1) (an (pl_ob hpk) (an (ak_of (pl_8 hpk) (by omega) (by omega)) (br (fun q => skip (fun z => q (e1.trans z.1))) (fun q => an (si_ob hs.1) (an (pl_ob hpk) (an (si_ob hs.1) ⟨Ab, f, hs, hf, ⟨by omega, by omega⟩, ?_⟩))))))))))
        have q : Ab 7 i = m := e1.symm.trans (Classical.not_not.mp q)
        have el : M (M k 0).toNat 14 = Ab 10 0 := hp.2.2.2.2.1
        rw [el]
        refine br (fun h2 => bf (by decide) (R_X8_passedBitsAt_49 R (ih _ _ (wn rfl (by omega)) ?_))) (fun h2 => bt rfl (skip (fun z => h2 z.2)))
        rw [ha]
        exact or_step (c := fun i => decide (Ab 7 i = m ∧ cntF Ab f (Ab 9 i) (Ab 10 0) < cntF Ab f (Ab 8 i) (Ab 10 0))) (by omega) (by simpa using ⟨q, h2⟩)
    exact ⟨Nat.le_of_ble_eq_true rfl, R_X8_passedBitsAt_0 R (key 0 (Nat.zero_le _) _ _ rfl rfl)⟩
  · exact h.elim
theorem cpy_eq {M : Mem} {a b n v : Nat} (h : v < n) : cpy M a 0 b 0 n b v = M a v := by
  unfold cpy
  rw [if_pos ⟨rfl, Nat.zero_le _, by omega⟩]
  congr 1
  omega
theorem cpy_ne {M : Mem} {a sp b dp n x y : Nat} (h : ¬ (x = b ∧ dp ≤ y ∧ y < dp + n)) : cpy M a sp b dp n x y = M x y := by
  unfold cpy
  rw [if_neg h]
theorem ak_cp {a b n na nb : Nat} (ha : SH a = (1, na, 0, 0)) (hb : SH b = (1, nb, 0, 0)) (hab : a ≠ b) {sp dp x : Int} (h1 : 0 ≤ x) (h2 : 0 ≤ sp) (h3 : 0 ≤ dp) (h4 : sp + x ≤ na) (h5 : dp + x ≤ nb) : (SH a).1 = 1 ∧ (SH b).1 = 1 ∧ a ≠ b ∧ 0 ≤ x ∧ 0 ≤ sp ∧ 0 ≤ dp ∧ sp + x ≤ ((SH a).2.1 : Int) ∧ dp + x ≤ ((SH b).2.1 : Int) := by
  rw [ha, hb]
  exact ⟨rfl, rfl, hab, h1, h2, h3, h4, h5⟩
theorem P_X8_copyFrom {J : JT} {Q : QT} (R : R_X8_copyFrom J Q) {as : List Vl} {M : Mem} (h : nf G_X8_copyFrom as M Q) : (enL as).length ≤ 2 ∧ J 0 (padL 2 (enL as)) [] M := by
  unfold nf G_X8_copyFrom at h
  split at h
  · rename_i k j
    obtain ⟨Ab, wo, σ, hs, hr, ⟨hk, hkj⟩, hQ⟩ := h
    obtain ⟨g1, g2⟩ := si_ge hk
    obtain ⟨g3, g4⟩ := si_ge hs.1
    have gap : k + 23 < j ∨ j + 23 < k := by
      rcases hk with rfl | rfl | rfl <;> rcases hs.1 with rfl | rfl | rfl <;> omega
    obtain ⟨n1, n2⟩ := nT_le hs.pl.2.2
    obtain ⟨p1, p2⟩ := nP_le hs.pl.2.2
    have c14 : ∀ c, 17 ≤ c → c ≤ 19 → ∀ M' : Mem, (SH (j + c)).1 = 1 ∧ (SH (k + c)).1 = 1 ∧ j + c ≠ k + c ∧ (0 : Int) ≤ 14 ∧ (0 : Int) ≤ 0 ∧ (0 : Int) ≤ 0 ∧ (0 : Int) + 14 ≤ ((SH (j + c)).2.1 : Int) ∧ (0 : Int) + 14 ≤ ((SH (k + c)).2.1 : Int) := fun c q1 q2 _ => ak_cp (n := 0) (si_14 hs.1 q1 q2) (si_14 hk q1 q2) (by omega) (by decide) (by decide) (by decide) (by decide) (by decide)
    have c10 : ∀ c, 20 ≤ c → c ≤ 22 → ∀ M' : Mem, (SH (j + c)).1 = 1 ∧ (SH (k + c)).1 = 1 ∧ j + c ≠ k + c ∧ (0 : Int) ≤ 10 ∧ (0 : Int) ≤ 0 ∧ (0 : Int) ≤ 0 ∧ (0 : Int) + 10 ≤ ((SH (j + c)).2.1 : Int) ∧ (0 : Int) + 10 ≤ ((SH (k + c)).2.1 : Int) := fun c q1 q2 _ => ak_cp (n := 0) (si_10 hs.1 q1 q2) (si_10 hk q1 q2) (by omega) (by decide) (by decide) (by decide) (by decide) (by decide)
    refine ⟨Nat.le_of_ble_eq_true rfl, R_X8_copyFrom_0 R (an (si_ob hs.1) (an (si_ob hk) (an (by have := hs.2.1; omega) (an (si_ob hs.1) (an (si_ob hk) (an ?_ (an (si_ob hs.1) (an (si_ob hk) (an (c14 17 (by decide) (by decide) M) (an (si_ob hs.1) (an (si_ob hk) (an (c14 18 (by decide) (by decide) M) (an (si_ob hs.1) (an (si_ob hk) (an (c14 19 (by decide) (by decide) M) (an (si_ob hs.1) (an (si_ob hk) (an (c10 20 (by decide) (by decide) M) (an (si_ob hs.1) (an (si_ob hk) (an (c10 21 (by decide) (by decide) M) (an (si_ob hs.1) (an (si_ob hk) (an (c10 22 (by decide) (by decide) M) ?_))))))))))))))))))))))))⟩
    · show (up M k 0 (((M j 0).toNat : Nat) : Int) j 1).toNat < 337
      rw [up_ne (by omega)]
      have := hs.2.2.1
      omega
    · generalize hM2 : up (up M k 0 (((M j 0).toNat : Nat) : Int)) k 1 (((up M k 0 (((M j 0).toNat : Nat) : Int) j 1).toNat : Nat) : Int) = M2
      have m0 : ∀ u v, u ≠ k → M2 u v = M u v := by
        intro u v hu
        rw [← hM2, up_ne (by omega), up_ne (by omega)]
      have k0 : (M2 k 0).toNat = (M j 0).toNat := by
        rw [← hM2, up_ne (by omega), up_eq]
        omega
      have k1 : (M2 k 1).toNat = (M j 1).toNat := by
        rw [← hM2, up_eq, up_ne (by omega)]
        omega
      show Q (.inl none) (cpy (cpy (cpy (cpy (cpy (cpy M2 (j + 17) 0 (k + 17) 0 14) (j + 18) 0 (k + 18) 0 14) (j + 19) 0 (k + 19) 0 14) (j + 20) 0 (k + 20) 0 10) (j + 21) 0 (k + 21) 0 10) (j + 22) 0 (k + 22) 0 10)
      generalize hM9 : cpy (cpy (cpy (cpy (cpy (cpy M2 (j + 17) 0 (k + 17) 0 14) (j + 18) 0 (k + 18) 0 14) (j + 19) 0 (k + 19) 0 14) (j + 20) 0 (k + 20) 0 10) (j + 21) 0 (k + 21) 0 10) (j + 22) 0 (k + 22) 0 10 = M9
      have out : ∀ u v, (u < k + 17 ∨ k + 22 < u) → M9 u v = M2 u v := by
        intro u v hu
        rw [← hM9, cpy_ne (by omega), cpy_ne (by omega), cpy_ne (by omega), cpy_ne (by omega), cpy_ne (by omega), cpy_ne (by omega)]
      have e17 : ∀ v, v < 14 → M9 (k + 17) v = M (j + 17) v := by
        intro v hv
        rw [← hM9, cpy_ne (by omega), cpy_ne (by omega), cpy_ne (by omega), cpy_ne (by omega), cpy_ne (by omega), cpy_eq hv, m0 _ _ (by omega)]
      have e18 : ∀ v, v < 14 → M9 (k + 18) v = M (j + 18) v := by
        intro v hv
        rw [← hM9, cpy_ne (by omega), cpy_ne (by omega), cpy_ne (by omega), cpy_ne (by omega), cpy_eq hv, cpy_ne (by omega), m0 _ _ (by omega)]
      have e19 : ∀ v, v < 14 → M9 (k + 19) v = M (j + 19) v := by
        intro v hv
        rw [← hM9, cpy_ne (by omega), cpy_ne (by omega), cpy_ne (by omega), cpy_eq hv, cpy_ne (by omega), cpy_ne (by omega), m0 _ _ (by omega)]
      have e21 : ∀ v, v < 10 → M9 (k + 21) v = M (j + 21) v := by
        intro v hv
        rw [← hM9, cpy_ne (by omega), cpy_eq hv, cpy_ne (by omega), cpy_ne (by omega), cpy_ne (by omega), cpy_ne (by omega), m0 _ _ (by omega)]
      have e22 : ∀ v, v < 10 → M9 (k + 22) v = M (j + 22) v := by
        intro v hv
        rw [← hM9, cpy_eq hv, cpy_ne (by omega), cpy_ne (by omega), cpy_ne (by omega), cpy_ne (by omega), cpy_ne (by omega), m0 _ _ (by omega)]
      refine hQ M9 (fun u v hu => ?_) ?_ ⟨fun t ht => ?_, fun p hp => ?_⟩
      · rw [out u v (by omega), m0 u v (by omega)]
      · obtain ⟨h1, h2, h3, h4, h5, h6, h7⟩ := hs
        have o0 := out k 0 (by omega)
        have o1 := out k 1 (by omega)
        exact ⟨hk, by rw [o0, k0]; exact h2, by rw [o1, k1]; exact h3, by rw [o0, k0]; exact h4.kept (fun u v q1 q2 => by rw [out u v (by omega), m0 u v (by omega)]), by rw [o1, k1]; exact h5.kept (fun u v q1 q2 => by rw [out u v (by omega), m0 u v (by omega)]), h6, h7⟩
      · rw [e17 t (by omega), e18 t (by omega), e19 t (by omega)]
        exact hr.1 t ht
      · rw [e21 p (by omega), e22 p (by omega)]
        exact hr.2 p hp

  · exact h.elim