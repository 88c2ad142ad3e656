theorem dfr_bd {Ab : Mem} (ho : HallOK Ab) (wo : Int) : ∀ (t : Nat) (d : Int), t ≤ nT Ab → 0 ≤ dfr Ab wo t d ∧ dfr Ab wo t d ≤ 99 + 99 * t
  | 0, d, _ => by simp [dfr]
  | t + 1, d, h => by
    have ih := dfr_bd ho wo t d (by omega)
    have h1 := ho.2.2.2.2.2.2.1 t (by omega)
    have h2 := pass_bd ho (t := t) (by omega)
    rw [dfr]
    split <;> omega
theorem sh_len {a kd n x y : Nat} (h : SH a = (kd, n, x, y)) : ((SH a).2.1 : Int) = (n : Int) := by rw [h]
theorem sh_k {a kd n x y : Nat} (h : SH a = (kd, n, x, y)) (h1 : 1 ≤ kd) (h8 : kd ≤ 8) : 1 ≤ (SH a).1 ∧ (SH a).1 ≤ 8 := by rw [h]; exact ⟨h1, h8⟩
theorem P_X6_findThrough {J : JT} {Q : QT} (R : R_X6_findThrough J Q) {as : List Vl} {M : Mem} (h : nf G_X6_findThrough as M Q) : (enL as).length ≤ 6 ∧ J 0 (padL 6 (enL as)) [] M := by
  unfold nf G_X6_findThrough at h
  split at h
  · rename_i k a wo b
    obtain ⟨Ab, ⟨hk, hp, ho⟩, ⟨ha, hb, hab, hka, hkb⟩, hQ⟩ := h
    obtain ⟨n1, n2⟩ := nT_le ho
    have key2 : ∀ i, i ≤ nT Ab → ∀ (x : Int) (M' : Mem) (z : Option Vl), x = (i : Int) → (∀ u v, u ≠ a → u ≠ b → M' u v = M u v) → (∀ t, t < i → M' a t = thC Ab wo t) → (∀ d : Nat, d < 3 → M' b d = dfr Ab wo i d) → J 24 [some (vR k), some (vR a), some (vI wo), some (vR b), some (vI x), z] [] M' := by
      refine dn ?_ ?_
      · intro x M' z hx hf hth hdf
        refine R_X6_findThrough_24 R (an (pl_ob hk) (bt (show M' k 3 ≤ x by rw [hf k 3 (by omega) (by omega), hp.2.1]; omega) (R_X6_findThrough_123 R (hQ M' hf hth))))
      · intro i hi ih x M' z hx hf hth hdf
        have hp' : PlanRel M' k Ab := hp.kept (fun u v h1 h2 => hf u v (by omega) (by omega))
        obtain ⟨e1, e2, e3, e4⟩ := hp'.2.2.2.2.2.2.1 i hi
        have h1 := ho.2.2.2.2.2.2.1 i hi
        obtain ⟨d1, d2⟩ := nD_le ho
        subst hx
        refine R_X6_findThrough_24 R (an (pl_ob hk) (bf (show ¬ M' k 3 ≤ (i : Int) by rw [hp'.2.1]; omega) (an (sh_k ha (by decide) (by decide)) (bf (show ¬ ((SH a).2.1 : Int) ≤ (i : Int) by rw [sh_len ha]; omega) (an (pl_ob hk) (an (ak_of (pl_5 hk) (by omega) (by omega)) (br (fun q => ?_) (fun q => ?_))))))))
        · have q : ¬ (i : Int) = wo := q
          have e3' : M' (k + 5) ((i : Int)).toNat = Ab 2 i := e3
          rw [e3']
          by_cases hd : Ab 2 i < 0
          · refine R_X6_findThrough_64 R (bt (show Ab 2 i < 0 from hd) (R_X6_findThrough_76 R (an (ak_of ha (by omega) (by omega)) (R_X6_findThrough_117 R (ih _ _ _ (wn rfl (by omega)) (fun u v h2 h3 => ?_) (fun t ht => ?_) (fun d hd3 => ?_))))))
            · rw [up_ne (by omega)]; exact hf u v h2 h3
            · by_cases e : t = i
              · subst e
                rw [show ((t : Nat) : Int).toNat = t from rfl, up_eq]
                unfold thC thF
                rw [if_neg q, if_pos hd]
              · rw [up_ne (by show ¬ (a = a ∧ t = i); omega)]
                exact hth t (by omega)
            · rw [up_ne (by omega), hdf d hd3, dfr, if_neg (by omega)]
          · have hd3 : Ab 2 i < 3 := by omega
            have hb1 := dfr_bd ho wo i (Ab 2 i) (by omega)
            have hb2 := pass_bd ho hi
            have hth' : thC Ab wo i = max (Ab 3 i) (dfr Ab wo i (Ab 2 i)) + passF Ab i := by
              unfold thC thF
              rw [if_neg q, if_neg hd]
            have hdb : M' b (Ab 2 i).toNat = dfr Ab wo i (Ab 2 i) := by
              rw [hdf _ (by omega), show (((Ab 2 i).toNat : Nat) : Int) = Ab 2 i by omega]
            refine R_X6_findThrough_64 R (bf (show ¬ Ab 2 i < 0 from hd) (an (sh_k hb (by decide) (by decide)) (bt (show Ab 2 i < ((SH b).2.1 : Int) by rw [sh_len hb]; omega) (R_X6_findThrough_84 R (an (pl_ob hk) (an (ak_of (pl_6 hk) (by omega) (by omega)) (an (ak_of hb (by omega) (by omega)) (an (pl_ob hk) ⟨Ab, ⟨hk, hp', ho⟩, ⟨by omega, by omega⟩, ?_⟩))))))))
            show AK 1 a (i : Int) ∧ AK 1 a (i : Int) ∧ AK 1 b (Ab 2 i) ∧ J 117 [some (vR k), some (vR a), some (vI wo), some (vR b), some (vI (i : Int)), some (vI (Ab 2 i))] [] (up (up M' a i (f_add (max (M' (k + 6) i) (M' b (Ab 2 i).toNat)) (passF Ab i))) b (Ab 2 i).toNat (up M' a i (f_add (max (M' (k + 6) i) (M' b (Ab 2 i).toNat)) (passF Ab i)) a i))
            have ev : f_add (max (M' (k + 6) i) (M' b (Ab 2 i).toNat)) (passF Ab i) = thC Ab wo i := by
              rw [hth', e4, hdb]
              exact w1 (by omega) (by omega) rfl
            rw [up_eq, ev]
            refine ⟨ak_of ha (by omega) (by omega), ak_of ha (by omega) (by omega), ak_of hb (by omega) (by omega), R_X6_findThrough_117 R (ih _ _ _ (wn rfl (by omega)) (fun u v h2 h3 => ?_) (fun t ht => ?_) (fun d hd4 => ?_))⟩
            · rw [up_ne (by omega), up_ne (by omega)]; exact hf u v h2 h3
            · rw [up_ne (by omega)]
              by_cases e : t = i
              · subst e
                rw [up_eq]
              · rw [up_ne (by omega)]
                exact hth t (by omega)
            · by_cases e : d = (Ab 2 i).toNat
              · rw [e, up_eq, dfr, if_pos ⟨q, by omega⟩, hth', show (((Ab 2 i).toNat : Nat) : Int) = Ab 2 i by omega]
              · rw [up_ne (by omega), up_ne (by omega), hdf d hd4, dfr, if_neg (by omega)]
        · have q : (i : Int) = wo := Classical.not_not.mp q
          refine an (ak_of ha (by omega) (by omega)) (R_X6_findThrough_117 R (ih _ _ _ (wn rfl (by omega)) (fun u v h2 h3 => ?_) (fun t ht => ?_) (fun d hd3 => ?_)))
          · rw [up_ne (by omega)]; exact hf u v h2 h3
          · by_cases e : t = i
            · subst e
              rw [show ((t : Nat) : Int).toNat = t from rfl, up_eq]
              unfold thC
              rw [if_pos q]
            · rw [up_ne (by show ¬ (a = a ∧ t = i); omega)]
              exact hth t (by omega)
          · rw [up_ne (by omega), hdf d hd3, dfr, if_neg (by omega)]
    have key1 : ∀ i : Nat, i ≤ 3 → ∀ (x : Int) (M' : Mem), x = (i : Int) → (∀ u v, u ≠ a → u ≠ b → M' u v = M u v) → (∀ d : Nat, d < i → M' b d = 0) → J 3 [some (vR k), some (vR a), some (vI wo), some (vR b), some (vI x), none] [] M' := by
      refine dn ?_ ?_
      · intro x M' hx hf hdf
        refine R_X6_findThrough_3 R (an (sh_k hb (by decide) (by decide)) (bt (show ((SH b).2.1 : Int) ≤ x by rw [sh_len hb]; omega) (R_X6_findThrough_21 R (key2 0 (Nat.zero_le _) _ _ _ rfl hf (fun t ht => absurd ht (Nat.not_lt_zero t)) (fun d hd => hdf d hd)))))
      · intro i hi ih x M' hx hf hdf
        subst hx
        refine R_X6_findThrough_3 R (an (sh_k hb (by decide) (by decide)) (bf (show ¬ ((SH b).2.1 : Int) ≤ (i : Int) by rw [sh_len hb]; omega) (an (ak_of hb (by omega) (by omega)) (ih _ _ (wn rfl (by omega)) (fun u v h2 h3 => ?_) (fun d hd => ?_)))))
        · rw [up_ne (by omega)]; exact hf u v h2 h3
        · by_cases e : d = i
          · subst e
            rw [show ((d : Nat) : Int).toNat = d from rfl, up_eq]
          · rw [up_ne (by show ¬ (b = b ∧ d = i); omega)]
            exact hdf d (by omega)
    exact ⟨Nat.le_of_ble_eq_true rfl, R_X6_findThrough_0 R (key1 0 (by omega) _ _ rfl (fun _ _ _ _ => rfl) (fun d hd => absurd hd (Nat.not_lt_zero d)))⟩
  · exact h.elim
/-! roots and the greatest shared number -/
def G_X10_rootOf : FN := fun as M Q => match as with
  | [.inl n] => (0 ≤ n ∧ n ≤ 1386) ∧ Q (some (vI (rootN n.toNat : Nat))) M
  | _ => False
def eu : Nat → Int → Int → Int
  | 0, a, _ => a
  | f + 1, a, b => if b ≤ 0 then a else eu f b (a.tmod b)
def G_X10_greatestShared : FN := fun as M Q => match as with
  | [.inl a, .inl b] => (0 ≤ a ∧ a < 1000000 ∧ 0 ≤ b ∧ b < 1000000) ∧ Q (some (vI (eu 64 a b))) M
  | _ => False
def b_X10_rootOf_0 : List AT := [tx_ic 0, tx_is 1, tx_ic 1, tx_is 2, tx_fall 4]
def b_X10_rootOf_4 : List AT := [tx_il 2, tx_ic 40, tx_cmp r_gt 25, tx_il 2, tx_il 2, tx_bin f_mul, tx_il 0, tx_cmp r_gt 25, tx_il 2, tx_is 1, tx_inc 2 1, tx_fall 4]
def b_X10_rootOf_25 : List AT := [tx_il 1, tx_ri]
def R_X10_rootOf (J : JT) (Q : QT) : Prop := (∀ ls st M, wpl J Q b_X10_rootOf_0 ls st M → J 0 ls st M) ∧ (∀ ls st M, wpl J Q b_X10_rootOf_4 ls st M → J 4 ls st M) ∧ (∀ ls st M, wpl J Q b_X10_rootOf_25 ls st M → J 25 ls st M)
theorem R_X10_rootOf_0 {J : JT} {Q : QT} (R : R_X10_rootOf J Q) {ls : Ls} {st : St} {M : Mem} (h : wpl J Q b_X10_rootOf_0 ls st M) : J 0 ls st M := R.1 ls st M h
theorem R_X10_rootOf_4 {J : JT} {Q : QT} (R : R_X10_rootOf J Q) {ls : Ls} {st : St} {M : Mem} (h : wpl J Q b_X10_rootOf_4 ls st M) : J 4 ls st M := R.2.1 ls st M h
theorem R_X10_rootOf_25 {J : JT} {Q : QT} (R : R_X10_rootOf J Q) {ls : Ls} {st : St} {M : Mem} (h : wpl J Q b_X10_rootOf_25 ls st M) : J 25 ls st M := R.2.2 ls st M h
def b_X10_greatestShared_0 : List AT := [tx_il 0, tx_is 2, tx_il 1, tx_is 3, tx_ic 0, tx_is 4, tx_fall 7]
def b_X10_greatestShared_7 : List AT := [tx_il 4, tx_ic 64, tx_cmp r_ge 34, tx_il 3, tx_ifz r_le 34, tx_il 2, tx_il 3, tx_rem, tx_is 5, tx_il 3, tx_is 2, tx_il 5, tx_is 3, tx_inc 4 1, tx_fall 7]
def b_X10_greatestShared_34 : List AT := [tx_il 2, tx_ri]
def R_X10_greatestShared (J : JT) (Q : QT) : Prop := (∀ ls st M, wpl J Q b_X10_greatestShared_0 ls st M → J 0 ls st M) ∧ (∀ ls st M, wpl J Q b_X10_greatestShared_7 ls st M → J 7 ls st M) ∧ (∀ ls st M, wpl J Q b_X10_greatestShared_34 ls st M → J 34 ls st M)
theorem R_X10_greatestShared_0 {J : JT} {Q : QT} (R : R_X10_greatestShared J Q) {ls : Ls} {st : St} {M : Mem} (h : wpl J Q b_X10_greatestShared_0 ls st M) : J 0 ls st M := R.1 ls st M h
theorem R_X10_greatestShared_7 {J : JT} {Q : QT} (R : R_X10_greatestShared J Q) {ls : Ls} {st : St} {M : Mem} (h : wpl J Q b_X10_greatestShared_7 ls st M) : J 7 ls st M := R.2.1 ls st M h
theorem R_X10_greatestShared_34 {J : JT} {Q : QT} (R : R_X10_greatestShared J Q) {ls : Ls} {st : St} {M : Mem} (h : wpl J Q b_X10_greatestShared_34 ls st M) : J 34 ls st M := R.2.2 ls st M h
theorem rootF_le (n : Nat) : ∀ f, rootF f n ≤ f ∧ rootF f n * rootF f n ≤ n
  | 0 => by simp [rootF]
  | f + 1 => by
    have ih := rootF_le n f
    rw [rootF]
    split
    · rename_i h
      exact ⟨by omega, h⟩
    · exact ⟨by omega, ih.2⟩
/-- the root, by its own property -/
theorem rootF_eq {n : Nat} : ∀ {f r : Nat}, r ≤ f → r * r ≤ n → (r = f ∨ n < (r + 1) * (r + 1)) → rootF f n = r
  | 0, r, h, _, _ => by have : r = 0 := by omega
                        subst this; rfl
  | f + 1, r, h, h1, h2 => by
    rw [rootF]
    by_cases hr : r = f + 1
    · subst hr
      have h3 : f * f ≤ n := Nat.le_trans (Nat.mul_le_mul (by omega) (by omega)) h1
      rw [rootF_eq (f := f) (r := f) (Nat.le_refl _) h3 (Or.inl rfl), if_pos h1]
    · have h4 : n < (r + 1) * (r + 1) := by
        rcases h2 with h2 | h2
        · exact absurd h2 hr
        · exact h2
      rw [rootF_eq (f := f) (r := r) (by omega) h1 (Or.inr h4), if_neg (by omega)]
theorem rootN_eq {n r : Nat} (hn : n ≤ 1386) (h1 : r * r ≤ n) (h2 : n < (r + 1) * (r + 1)) : rootN n = r := by
  have : r ≤ 40 := by
    rcases Nat.lt_or_ge 40 r with q | q
    · have := Nat.mul_le_mul (show 41 ≤ r by omega) (show 41 ≤ r by omega)
      omega
    · exact q
  exact rootF_eq this h1 (Or.inr h2)
theorem P_X10_rootOf {J : JT} {Q : QT} (R : R_X10_rootOf J Q) {as : List Vl} {M : Mem} (h : nf G_X10_rootOf as M Q) : (enL as).length ≤ 3 ∧ J 0 (padL 3 (enL as)) [] M := by
  unfold nf G_X10_rootOf at h
  split at h
  · rename_i n
    obtain ⟨⟨h0, h1⟩, hQ⟩ := h
    obtain ⟨m, rfl⟩ : ∃ m : Nat, n = m := ⟨n.toNat, by omega⟩
    rw [Int.toNat_natCast] at hQ
    have key : ∀ r, r ≤ 40 → r * r ≤ m → ∀ x y : Int, x = (r : Int) → y = ((r + 1 : Nat) : Int) → J 4 [some (vI (m : Int)), some (vI x), some (vI y)] [] M := by
      refine dn (P := fun r => r * r ≤ m → ∀ x y : Int, x = (r : Int) → y = ((r + 1 : Nat) : Int) → J 4 [some (vI (m : Int)), some (vI x), some (vI y)] [] M) ?_ ?_
      · intro hr
        omega
      · intro r hr ih hrm x y hx hy
        subst hx hy
        have hmul : f_mul ((r + 1 : Nat) : Int) ((r + 1 : Nat) : Int) = (((r + 1) * (r + 1) : Nat) : Int) := by
          have := Nat.mul_le_mul (show r + 1 ≤ 40 by omega) (show r + 1 ≤ 40 by omega)
          unfold f_mul
          rw [← Int.natCast_mul]
          exact w1 (by omega) (by omega) rfl
        refine R_X10_rootOf_4 R (bf (show ¬ (40 : Int) < ((r + 1 : Nat) : Int) by omega) (br (fun q => ?_) (fun q => ?_)))
        · have q : (m : Int) < f_mul ((r + 1 : Nat) : Int) ((r + 1 : Nat) : Int) := q
          rw [hmul] at q
          refine R_X10_rootOf_25 R ?_
          rw [rootN_eq (r := r) (by omega) hrm (by omega)] at hQ
          exact hQ
        · have q : ¬ (m : Int) < f_mul ((r + 1 : Nat) : Int) ((r + 1 : Nat) : Int) := q
          rw [hmul] at q
          exact ih (by omega) _ _ rfl (wn rfl (by omega))
    exact ⟨Nat.le_of_ble_eq_true rfl, R_X10_rootOf_0 R (key 0 (by omega) (by omega) _ _ rfl rfl)⟩
  · exact h.elim
theorem P_X10_greatestShared {J : JT} {Q : QT} (R : R_X10_greatestShared J Q) {as : List Vl} {M : Mem} (h : nf G_X10_greatestShared as M Q) : (enL as).length ≤ 6 ∧ J 0 (padL 6 (enL as)) [] M := by
  unfold nf G_X10_greatestShared at h
  split at h
  · rename_i a b
    obtain ⟨⟨a0, a1, b0, b1⟩, hQ⟩ := h
    have key : ∀ i : Nat, i ≤ 64 → ∀ (u v x : Int) (z : Option Vl), x = (i : Int) → 0 ≤ u → u < 1000000 → 0 ≤ v → v < 1000000 → eu (64 - i) u v = eu 64 a b → J 7 [some (vI a), some (vI b), some (vI u), some (vI v), some (vI x), z] [] M := by
      refine dn ?_ ?_
      · intro u v x z hx u0 u1 v0 v1 he
        rw [← he] at hQ
        exact R_X10_greatestShared_7 R (bt (show (64 : Int) ≤ x by omega) (R_X10_greatestShared_34 R hQ))
      · intro i hi ih u v x z hx u0 u1 v0 v1 he
        subst hx
        rw [show 64 - i = (64 - (i + 1)) + 1 by omega, eu] at he
        refine R_X10_greatestShared_7 R (bf (show ¬ (64 : Int) ≤ (i : Int) by omega) (br (fun q => ?_) (fun q => an ?_ ?_)))
        · have q : v ≤ 0 := q
          rw [if_pos q] at he
          rw [← he] at hQ
          exact R_X10_greatestShared_34 R hQ
        · have q : ¬ v ≤ 0 := q
          show v ≠ 0
          omega
        · have q : ¬ v ≤ 0 := q
          rw [if_neg q] at he
          have e : u.tmod v = u % v := Int.tmod_eq_emod_of_nonneg u0
          have m0 := Int.emod_nonneg u (show v ≠ 0 by omega)
          have m1 := Int.emod_lt_of_pos u (show 0 < v by omega)
          have ew : w32 (u.tmod v) = u.tmod v := w1 (by omega) (by omega) rfl
          exact ih _ _ _ _ (wn rfl (by omega)) v0 v1 (by rw [ew]; omega) (by rw [ew]; omega) (by rw [ew]; exact he)
    exact ⟨Nat.le_of_ble_eq_true rfl, R_X10_greatestShared_0 R (key 0 (by omega) _ _ _ _ rfl a0 a1 b0 b1 rfl)⟩

  · exact h.elim