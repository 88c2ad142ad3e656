noncomputable def tf (p : Prop) : Bool := @decide p (Classical.propDecidable p)
theorem tf_iff {p : Prop} : tf p = true ↔ p := by unfold tf; exact @decide_eq_true_iff p (Classical.propDecidable p)
def fwC2 (Ab : Mem) (b : Int) (t : Nat) : Bool := decide (Ab 2 t = -1) && bitB b (Ab 0 t)
def fwN (Ab : Mem) (b : Int) : Nat → Nat
  | 0 => 0
  | t + 1 => if fwN Ab b t < 10 ∧ fwC2 Ab b t = true then fwN Ab b t + 1 else fwN Ab b t
def fwA (Ab : Mem) (b : Int) : Nat → Nat → Nat
  | 0, _ => 0
  | t + 1, i => if (fwN Ab b t < 10 ∧ fwC2 Ab b t = true) ∧ i = fwN Ab b t then t else fwA Ab b t i
def crN (b : Int) : Nat → Nat
  | 0 => 0
  | p + 1 => if bitB b (p : Int) = true then crN b p + 1 else crN b p
def crA (b : Int) : Nat → Nat → Nat
  | 0, _ => 0
  | p + 1, i => if bitB b (p : Int) = true ∧ i = crN b p then p else crA b p i
def cwF (Ab : Mem) (b : Int) (i : Nat) : Int := Ab 1 (fwA Ab b (nT Ab) i)
def ccF (Ab : Mem) (m : Nat) (b : Int) (c : Nat) : Int := if c < crN b (nP Ab) then 60 * Ab 5 (crA b (nP Ab) c) / (Ab 7 m + 1) else 0
theorem fwN_le (Ab : Mem) (b : Int) : ∀ t, fwN Ab b t ≤ 10 ∧ fwN Ab b t ≤ t
  | 0 => by simp [fwN]
  | t + 1 => by have := fwN_le Ab b t; rw [fwN]; split <;> omega
theorem fwN_mono (Ab : Mem) (b : Int) (t : Nat) : ∀ d, fwN Ab b t ≤ fwN Ab b (t + d)
  | 0 => Nat.le_refl _
  | d + 1 => by have := fwN_mono Ab b t d; rw [← Nat.add_assoc, fwN]; split <;> omega
theorem fwA_st (Ab : Mem) (b : Int) {t i : Nat} (h : i < fwN Ab b t) : ∀ d, fwA Ab b (t + d) i = fwA Ab b t i
  | 0 => rfl
  | d + 1 => by
    have := fwN_mono Ab b t d
    rw [← Nat.add_assoc, fwA, if_neg (by omega)]
    exact fwA_st Ab b h d
theorem fwN_10 {Ab : Mem} {b : Int} {t : Nat} (h : fwN Ab b t = 10) (d : Nat) : fwN Ab b (t + d) = 10 := by
  have := fwN_mono Ab b t d
  have := (fwN_le Ab b (t + d)).1
  omega
theorem fwA_lt (Ab : Mem) (b : Int) : ∀ t i, i < fwN Ab b t → fwA Ab b t i < t
  | 0, i, h => by simp [fwN] at h
  | t + 1, i, h => by
    rw [fwA]
    by_cases q : (fwN Ab b t < 10 ∧ fwC2 Ab b t = true) ∧ i = fwN Ab b t
    · rw [if_pos q]; omega
    · rw [if_neg q]
      have : i < fwN Ab b t := by
        rw [fwN] at h
        by_cases e : fwN Ab b t < 10 ∧ fwC2 Ab b t = true
        · rw [if_pos e] at h
          have : ¬ i = fwN Ab b t := fun z => q ⟨e, z⟩
          omega
        · rw [if_neg e] at h; exact h
      have := fwA_lt Ab b t i this
      omega
theorem crN_le (b : Int) : ∀ p, crN b p ≤ p
  | 0 => by simp [crN]
  | p + 1 => by have := crN_le b p; rw [crN]; split <;> omega
theorem crA_lt (b : Int) : ∀ t i, i < crN b t → crA b t i < t
  | 0, i, h => by simp [crN] at h
  | t + 1, i, h => by
    rw [crA]
    by_cases q : bitB b (t : Int) = true ∧ i = crN b t
    · rw [if_pos q]; omega
    · rw [if_neg q]
      have : i < crN b t := by
        rw [crN] at h
        by_cases e : bitB b (t : Int) = true
        · rw [if_pos e] at h
          have : ¬ i = crN b t := fun z => q ⟨e, z⟩
          omega
        · rw [if_neg e] at h; exact h
      have := crA_lt b t i this
      omega
theorem cw_ok {Ab : Mem} (ho : HallOK Ab) (b : Int) : wOK (cwF Ab b) (fwN Ab b (nT Ab)) := by
  refine ⟨(fwN_le _ _ _).1, fun i hi => ?_⟩
  exact (ho.2.2.2.2.2.2.1 _ (fwA_lt Ab b _ i hi)).2.1
theorem cc_ok {Ab : Mem} (ho : HallOK Ab) {m : Nat} (hm : m < nM Ab) (b : Int) (c : Nat) : 0 ≤ ccF Ab m b c ∧ ccF Ab m b c ≤ 6000 := by
  unfold ccF
  split
  · rename_i h
    have h5 := (ho.2.2.2.2.2.1 _ (crA_lt b _ c h)).2
    have h7 := (ho.2.2.2.2.2.2.2.2 m hm).1
    refine ⟨Int.ediv_nonneg (by omega) (by omega), ?_⟩
    have := Int.ediv_le_self (a := 60 * Ab 5 (crA b (nP Ab) c)) (Ab 7 m + 1) (by omega)
    omega
  · omega
/-- the least of the sets that do -/
def lsP (C : Nat → Bool) (W : Nat → Int) (ag : Int) : Nat → Int
  | 0 => -1
  | s + 1 => if C s = true ∧ ag < W s ∧ (lsP C W ag s = -1 ∨ W s < W (lsP C W ag s).toNat) then (s : Int) else lsP C W ag s
theorem lsP_bd (C : Nat → Bool) (W : Nat → Int) (ag : Int) : ∀ s, lsP C W ag s = -1 ∨ (0 ≤ lsP C W ag s ∧ lsP C W ag s < (s : Int))
  | 0 => Or.inl rfl
  | s + 1 => by
    rw [lsP]
    split
    · right; omega
    · rcases lsP_bd C W ag s with h | h
      · exact Or.inl h
      · right; omega
noncomputable def lsF (Ab : Mem) (m : Nat) (ag : Int) : Int := lsP (fun s => tf (CanP (cwF Ab (Ab 8 m)) (ccF Ab m (Ab 8 m)) (fwN Ab (Ab 8 m) (nT Ab)) (crN (Ab 8 m) (nP Ab)) s)) (fun s => wS (cwF Ab (Ab 8 m)) s (fwN Ab (Ab 8 m) (nT Ab))) ag (2 ^ fwN Ab (Ab 8 m) (nT Ab))
noncomputable def lpF (Ab : Mem) (m : Nat) (ag : Int) : Int := if lsF Ab m ag = -1 then -1 else wS (cwF Ab (Ab 8 m)) (lsF Ab m ag).toNat (fwN Ab (Ab 8 m) (nT Ab))
def CarRel (M : Mem) (w caps : Nat → Int) (n K : Nat) : Prop := M 117 0 = (n : Int) ∧ M 117 2 = (K : Int) ∧ wOK w n ∧ K ≤ 10 ∧ (∀ c, 0 ≤ caps c ∧ caps c ≤ 6000) ∧ (∀ i, i < n → M 118 i = w i) ∧ ∀ c, c < K → M 119 c = caps c
def G_X2_chooseThings : FN := fun as M Q => match as with
  | [.inr (.inl k), .inr (.inl pl), .inl m] => ∃ Ab, k = 117 ∧ PL M pl Ab ∧ (0 ≤ m ∧ m < Ab 10 4) ∧ ∀ M' : Mem, (∀ u v, u ≠ 118 → ¬ (u = 117 ∧ v = 0) → M' u v = M u v) → M' 117 0 = (fwN Ab (Ab 8 m.toNat) (nT Ab) : Nat) → (∀ i, i < fwN Ab (Ab 8 m.toNat) (nT Ab) → M' 118 i = cwF Ab (Ab 8 m.toNat) i) → Q none M'
  | _ => False
def G_X2_chooseCarriers : FN := fun as M Q => match as with
  | [.inr (.inl k), .inr (.inl pl), .inl m] => ∃ Ab, k = 117 ∧ PL M pl Ab ∧ (0 ≤ m ∧ m < Ab 10 4) ∧ ∀ M' : Mem, (∀ u v, u ≠ 119 → ¬ (u = 117 ∧ v = 2) → M' u v = M u v) → M' 117 2 = (crN (Ab 8 m.toNat) (nP Ab) : Nat) → (∀ c, c < crN (Ab 8 m.toNat) (nP Ab) → M' 119 c = ccF Ab m.toNat (Ab 8 m.toNat) c) → Q none M'
  | _ => False
def G_X2_needWith : FN := fun as M Q => match as with
  | [.inr (.inl k), .inl be, .inl w] => ∃ (caps : Nat → Int) (K : Nat), (k = 117 ∧ M 117 2 = (K : Int) ∧ K ≤ 10 ∧ 0 ≤ be ∧ (be = 1000000 ∨ be < 100000) ∧ 0 ≤ w ∧ w ≤ 99) ∧ (∀ c, c < K → M 119 c = caps c) ∧ ∀ v, NW caps K be w v → Q (some (vI v)) M
  | _ => False
def G_X2_needOf : FN := fun as M Q => match as with
  | [.inr (.inl k), .inl s] => ∃ (w caps : Nat → Int) (n K : Nat), (k = 117 ∧ 0 < s ∧ s < ((2 ^ n : Nat) : Int)) ∧ CarRel M w caps n K ∧ (∀ r, r < s.toNat → NdOK w caps n K r (M 121 r)) ∧ ∀ v, NdOK w caps n K s.toNat v → Q (some (vI v)) M
  | _ => False
def G_X2_find : FN := fun as M Q => match as with
  | [.inr (.inl k), .inr (.inl pl), .inl m, .inl ag] => ∃ Ab, k = 117 ∧ PL M pl Ab ∧ (0 ≤ m ∧ m < Ab 10 4) ∧ (0 ≤ ag ∧ ag < 1000000) ∧ ∀ M' : Mem, (∀ u v, (u < 117 ∨ 121 < u) → M' u v = M u v) → M' 117 6 = lpF Ab m.toNat ag → M' 117 7 = lsF Ab m.toNat ag → Q none M'
  | _ => False
def b_X2_chooseThings_0 : List AT := [tx_al 0, tx_ic 0, tx_pi 2 0, tx_ic 0, tx_is 3, tx_fall 7]
def b_X2_chooseThings_7 : List AT := tx_il 3 :: tx_al 1 :: tx_gi 6 3 :: tx_cmp r_ge 83 :: tx_al 0 :: tx_gi 2 0 :: tx_ic 10 :: tx_cmp r_ge 83 :: tx_al 1 :: tx_gr 6 5 :: tx_il 3 :: tx_ia :: tx_ic (-1) :: tx_cmp r_ne 77 :: tx_al 1 :: tx_gr 6 3 :: tx_il 3 :: tx_ia :: tx_al 1 :: tx_gr 6 9 :: tx_il 2 :: tx_ia :: tx_call (nf G_X10_isIn) 2 :: tx_ifz r_eq 77 :: tx_al 0 :: tx_gr 2 1 :: tx_al 0 :: tx_gi 2 0 :: tx_al 1 :: tx_gr 6 4 :: tx_il 3 :: tx_ia :: tx_iax :: tx_al 0 :: tx_dup :: tx_gi 2 0 :: tx_ic 1 :: tx_bin f_add :: tx_pi 2 0 :: tx_fall 77 :: []
def b_X2_chooseThings_77 : List AT := [tx_inc 3 1, tx_fall 7]
def b_X2_chooseThings_83 : List AT := [tx_rv]
def R_X2_chooseThings (J : JT) (Q : QT) : Prop := (∀ ls st M, wpl J Q b_X2_chooseThings_0 ls st M → J 0 ls st M) ∧ (∀ ls st M, wpl J Q b_X2_chooseThings_7 ls st M → J 7 ls st M) ∧ (∀ ls st M, wpl J Q b_X2_chooseThings_77 ls st M → J 77 ls st M) ∧ (∀ ls st M, wpl J Q b_X2_chooseThings_83 ls st M → J 83 ls st M)
theorem R_X2_chooseThings_0 {J : JT} {Q : QT} (R : R_X2_chooseThings J Q) {ls : Ls} {st : St} {M : Mem} (h : wpl J Q b_X2_chooseThings_0 ls st M) : J 0 ls st M := R.1 ls st M h
theorem R_X2_chooseThings_7 {J : JT} {Q : QT} (R : R_X2_chooseThings J Q) {ls : Ls} {st : St} {M : Mem} (h : wpl J Q b_X2_chooseThings_7 ls st M) : J 7 ls st M := R.2.1 ls st M h
theorem R_X2_chooseThings_77 {J : JT} {Q : QT} (R : R_X2_chooseThings J Q) {ls : Ls} {st : St} {M : Mem} (h : wpl J Q b_X2_chooseThings_77 ls st M) : J 77 ls st M := R.2.2.1 ls st M h
theorem R_X2_chooseThings_83 {J : JT} {Q : QT} (R : R_X2_chooseThings J Q) {ls : Ls} {st : St} {M : Mem} (h : wpl J Q b_X2_chooseThings_83 ls st M) : J 83 ls st M := R.2.2.2 ls st M h
def b_X2_chooseCarriers_0 : List AT := [tx_al 0, tx_ic 0, tx_pi 2 2, tx_ic 0, tx_is 3, tx_fall 7]
def b_X2_chooseCarriers_7 : List AT := tx_il 3 :: tx_al 1 :: tx_gi 6 0 :: tx_cmp r_ge 82 :: tx_il 3 :: tx_al 1 :: tx_gr 6 9 :: tx_il 2 :: tx_ia :: tx_call (nf G_X10_isIn) 2 :: tx_ifz r_eq 76 :: tx_al 0 :: tx_gi 2 2 :: tx_ic 10 :: tx_cmp r_ge 76 :: tx_al 0 :: tx_gr 2 2 :: tx_al 0 :: tx_gi 2 2 :: tx_ic 60 :: tx_al 1 :: tx_gr 6 2 :: tx_il 3 :: tx_ia :: tx_bin f_mul :: tx_al 1 :: tx_gr 6 8 :: tx_il 2 :: tx_ia :: tx_ic 1 :: tx_bin f_add :: tx_call (nf G_X10_cut) 2 :: tx_iax :: tx_al 0 :: tx_dup :: tx_gi 2 2 :: tx_ic 1 :: tx_bin f_add :: tx_pi 2 2 :: tx_fall 76 :: []
def b_X2_chooseCarriers_76 : List AT := [tx_inc 3 1, tx_fall 7]
def b_X2_chooseCarriers_82 : List AT := [tx_rv]
def R_X2_chooseCarriers (J : JT) (Q : QT) : Prop := (∀ ls st M, wpl J Q b_X2_chooseCarriers_0 ls st M → J 0 ls st M) ∧ (∀ ls st M, wpl J Q b_X2_chooseCarriers_7 ls st M → J 7 ls st M) ∧ (∀ ls st M, wpl J Q b_X2_chooseCarriers_76 ls st M → J 76 ls st M) ∧ (∀ ls st M, wpl J Q b_X2_chooseCarriers_82 ls st M → J 82 ls st M)
theorem R_X2_chooseCarriers_0 {J : JT} {Q : QT} (R : R_X2_chooseCarriers J Q) {ls : Ls} {st : St} {M : Mem} (h : wpl J Q b_X2_chooseCarriers_0 ls st M) : J 0 ls st M := R.1 ls st M h
theorem R_X2_chooseCarriers_7 {J : JT} {Q : QT} (R : R_X2_chooseCarriers J Q) {ls : Ls} {st : St} {M : Mem} (h : wpl J Q b_X2_chooseCarriers_7 ls st M) : J 7 ls st M := R.2.1 ls st M h
theorem R_X2_chooseCarriers_76 {J : JT} {Q : QT} (R : R_X2_chooseCarriers J Q) {ls : Ls} {st : St} {M : Mem} (h : wpl J Q b_X2_chooseCarriers_76 ls st M) : J 76 ls st M := R.2.2.1 ls st M h
theorem R_X2_chooseCarriers_82 {J : JT} {Q : QT} (R : R_X2_chooseCarriers J Q) {ls : Ls} {st : St} {M : Mem} (h : wpl J Q b_X2_chooseCarriers_82 ls st M) : J 82 ls st M := R.2.2.2 ls st M h
def b_X2_needWith_0 : List AT := [tx_il 1, tx_ic 1000000, tx_cmp r_ne 9, tx_ic 1000000, tx_ri]
def b_X2_needWith_9 : List AT := [tx_il 1, tx_ic 4096, tx_div, tx_is 3, tx_il 1, tx_ic 4096, tx_rem, tx_is 4, tx_il 3, tx_is 5, tx_fall 25]
def b_X2_needWith_25 : List AT := [tx_il 5, tx_al 0, tx_gi 2 2, tx_cmp r_ge 69, tx_il 4, tx_il 2, tx_bin f_add, tx_al 0, tx_gr 2 2, tx_il 5, tx_ia, tx_cmp r_gt 60, tx_il 5, tx_ic 4096, tx_bin f_mul, tx_il 4, tx_bin f_add, tx_il 2, tx_bin f_add, tx_ri]
def b_X2_needWith_60 : List AT := [tx_ic 0, tx_is 4, tx_inc 5 1, tx_fall 25]
def b_X2_needWith_69 : List AT := [tx_ic 1000000, tx_ri]
def R_X2_needWith (J : JT) (Q : QT) : Prop := (∀ ls st M, wpl J Q b_X2_needWith_0 ls st M → J 0 ls st M) ∧ (∀ ls st M, wpl J Q b_X2_needWith_9 ls st M → J 9 ls st M) ∧ (∀ ls st M, wpl J Q b_X2_needWith_25 ls st M → J 25 ls st M) ∧ (∀ ls st M, wpl J Q b_X2_needWith_60 ls st M → J 60 ls st M) ∧ (∀ ls st M, wpl J Q b_X2_needWith_69 ls st M → J 69 ls st M)
theorem R_X2_needWith_0 {J : JT} {Q : QT} (R : R_X2_needWith J Q) {ls : Ls} {st : St} {M : Mem} (h : wpl J Q b_X2_needWith_0 ls st M) : J 0 ls st M := R.1 ls st M h
theorem R_X2_needWith_9 {J : JT} {Q : QT} (R : R_X2_needWith J Q) {ls : Ls} {st : St} {M : Mem} (h : wpl J Q b_X2_needWith_9 ls st M) : J 9 ls st M := R.2.1 ls st M h
theorem R_X2_needWith_25 {J : JT} {Q : QT} (R : R_X2_needWith J Q) {ls : Ls} {st : St} {M : Mem} (h : wpl J Q b_X2_needWith_25 ls st M) : J 25 ls st M := R.2.2.1 ls st M h
theorem R_X2_needWith_60 {J : JT} {Q : QT} (R : R_X2_needWith J Q) {ls : Ls} {st : St} {M : Mem} (h : wpl J Q b_X2_needWith_60 ls st M) : J 60 ls st M := R.2.2.2.1 ls st M h
theorem R_X2_needWith_69 {J : JT} {Q : QT} (R : R_X2_needWith J Q) {ls : Ls} {st : St} {M : Mem} (h : wpl J Q b_X2_needWith_69 ls st M) : J 69 ls st M := R.2.2.2.2 ls st M h
def b_X2_needOf_0 : List AT := [tx_ic 1000000, tx_is 2, tx_ic 0, tx_is 3, tx_fall 5]
def b_X2_needOf_5 : List AT := tx_il 3 :: tx_al 0 :: tx_gi 2 0 :: tx_cmp r_ge 52 :: tx_il 3 :: tx_il 1 :: tx_call (nf G_X10_isIn) 2 :: tx_ifz r_eq 46 :: tx_il 2 :: tx_al 0 :: tx_al 0 :: tx_gr 2 4 :: tx_il 1 :: tx_ic 1 :: tx_il 3 :: tx_bin shlI :: tx_bin xorI :: tx_ia :: tx_al 0 :: tx_gr 2 1 :: tx_il 3 :: tx_ia :: tx_callv 2 (nf G_X2_needWith) 2 :: tx_call (nf G_J9_min_7cf53) 2 :: tx_is 2 :: tx_fall 46 :: []
def b_X2_needOf_46 : List AT := [tx_inc 3 1, tx_fall 5]
def b_X2_needOf_52 : List AT := [tx_il 2, tx_ri]
def R_X2_needOf (J : JT) (Q : QT) : Prop := (∀ ls st M, wpl J Q b_X2_needOf_0 ls st M → J 0 ls st M) ∧ (∀ ls st M, wpl J Q b_X2_needOf_5 ls st M → J 5 ls st M) ∧ (∀ ls st M, wpl J Q b_X2_needOf_46 ls st M → J 46 ls st M) ∧ (∀ ls st M, wpl J Q b_X2_needOf_52 ls st M → J 52 ls st M)
theorem R_X2_needOf_0 {J : JT} {Q : QT} (R : R_X2_needOf J Q) {ls : Ls} {st : St} {M : Mem} (h : wpl J Q b_X2_needOf_0 ls st M) : J 0 ls st M := R.1 ls st M h
theorem R_X2_needOf_5 {J : JT} {Q : QT} (R : R_X2_needOf J Q) {ls : Ls} {st : St} {M : Mem} (h : wpl J Q b_X2_needOf_5 ls st M) : J 5 ls st M := R.2.1 ls st M h
theorem R_X2_needOf_46 {J : JT} {Q : QT} (R : R_X2_needOf J Q) {ls : Ls} {st : St} {M : Mem} (h : wpl J Q b_X2_needOf_46 ls st M) : J 46 ls st M := R.2.2.1 ls st M h
theorem R_X2_needOf_52 {J : JT} {Q : QT} (R : R_X2_needOf J Q) {ls : Ls} {st : St} {M : Mem} (h : wpl J Q b_X2_needOf_52 ls st M) : J 52 ls st M := R.2.2.2 ls st M h
def b_X2_find_0 : List AT := tx_al 0 :: tx_al 1 :: tx_il 2 :: tx_callv 2 (nf G_X2_chooseThings) 2 :: tx_al 0 :: tx_al 1 :: tx_il 2 :: tx_callv 2 (nf G_X2_chooseCarriers) 2 :: tx_al 0 :: tx_ic (-1) :: tx_pi 2 6 :: tx_al 0 :: tx_ic (-1) :: tx_pi 2 7 :: tx_al 0 :: tx_gr 2 3 :: tx_ic 0 :: tx_ic 0 :: tx_iax :: tx_al 0 :: tx_gr 2 4 :: tx_ic 0 :: tx_al 0 :: tx_gi 2 2 :: tx_ifz r_le 45 :: tx_ic 0 :: tx_fall 47 :: []
def b_X2_find_45 : List AT := [tx_ic 1000000, tx_fall 47]
def b_X2_find_47 : List AT := [tx_iax, tx_ic 1, tx_is 4, tx_fall 51]
def b_X2_find_51 : List AT := tx_il 4 :: tx_ic 1 :: tx_al 0 :: tx_gi 2 0 :: tx_bin shlI :: tx_cmp r_ge 185 :: tx_al 0 :: tx_gr 2 3 :: tx_il 4 :: tx_al 0 :: tx_gr 2 3 :: tx_il 4 :: tx_il 4 :: tx_ic 1 :: tx_bin f_sub :: tx_bin andI :: tx_ia :: tx_al 0 :: tx_gr 2 1 :: tx_il 4 :: tx_call (nf G_X10_lowestOf) 1 :: tx_ia :: tx_bin f_add :: tx_iax :: tx_al 0 :: tx_gr 2 4 :: tx_il 4 :: tx_al 0 :: tx_il 4 :: tx_callv 2 (nf G_X2_needOf) 1 :: tx_iax :: tx_al 0 :: tx_gr 2 4 :: tx_il 4 :: tx_ia :: tx_ic 1000000 :: tx_cmp r_eq 132 :: tx_al 0 :: tx_gr 2 3 :: tx_il 4 :: tx_ia :: tx_il 3 :: tx_cmp r_le 132 :: tx_ic 1 :: tx_fall 133 :: []
def b_X2_find_132 : List AT := [tx_ic 0, tx_fall 133]
def b_X2_find_133 : List AT := [tx_is 5, tx_il 5, tx_ifz r_eq 179, tx_al 0, tx_gi 2 6, tx_ic (-1), tx_cmp r_eq 162, tx_al 0, tx_gr 2 3, tx_il 4, tx_ia, tx_al 0, tx_gi 2 6, tx_cmp r_ge 179, tx_fall 162]
def b_X2_find_162 : List AT := [tx_al 0, tx_al 0, tx_gr 2 3, tx_il 4, tx_ia, tx_pi 2 6, tx_al 0, tx_il 4, tx_pi 2 7, tx_fall 179]
def b_X2_find_179 : List AT := [tx_inc 4 1, tx_fall 51]
def b_X2_find_185 : List AT := [tx_rv]
def R_X2_find (J : JT) (Q : QT) : Prop := (∀ ls st M, wpl J Q b_X2_find_0 ls st M → J 0 ls st M) ∧ (∀ ls st M, wpl J Q b_X2_find_45 ls st M → J 45 ls st M) ∧ (∀ ls st M, wpl J Q b_X2_find_47 ls st M → J 47 ls st M) ∧ (∀ ls st M, wpl J Q b_X2_find_51 ls st M → J 51 ls st M) ∧ (∀ ls st M, wpl J Q b_X2_find_132 ls st M → J 132 ls st M) ∧ (∀ ls st M, wpl J Q b_X2_find_133 ls st M → J 133 ls st M) ∧ (∀ ls st M, wpl J Q b_X2_find_162 ls st M → J 162 ls st M) ∧ (∀ ls st M, wpl J Q b_X2_find_179 ls st M → J 179 ls st M) ∧ (∀ ls st M, wpl J Q b_X2_find_185 ls st M → J 185 ls st M)
theorem R_X2_find_0 {J : JT} {Q : QT} (R : R_X2_find J Q) {ls : Ls} {st : St} {M : Mem} (h : wpl J Q b_X2_find_0 ls st M) : J 0 ls st M := R.1 ls st M h
theorem R_X2_find_45 {J : JT} {Q : QT} (R : R_X2_find J Q) {ls : Ls} {st : St} {M : Mem} (h : wpl J Q b_X2_find_45 ls st M) : J 45 ls st M := R.2.1 ls st M h
theorem R_X2_find_47 {J : JT} {Q : QT} (R : R_X2_find J Q) {ls : Ls} {st : St} {M : Mem} (h : wpl J Q b_X2_find_47 ls st M) : J 47 ls st M := R.2.2.1 ls st M h
theorem R_X2_find_51 {J : JT} {Q : QT} (R : R_X2_find J Q) {ls : Ls} {st : St} {M : Mem} (h : wpl J Q b_X2_find_51 ls st M) : J 51 ls st M := R.2.2.2.1 ls st M h
theorem R_X2_find_132 {J : JT} {Q : QT} (R : R_X2_find J Q) {ls : Ls} {st : St} {M : Mem} (h : wpl J Q b_X2_find_132 ls st M) : J 132 ls st M := R.2.2.2.2.1 ls st M h
theorem R_X2_find_133 {J : JT} {Q : QT} (R : R_X2_find J Q) {ls : Ls} {st : St} {M : Mem} (h : wpl J Q b_X2_find_133 ls st M) : J 133 ls st M := R.2.2.2.2.2.1 ls st M h
theorem R_X2_find_162 {J : JT} {Q : QT} (R : R_X2_find J Q) {ls : Ls} {st : St} {M : Mem} (h : wpl J Q b_X2_find_162 ls st M) : J 162 ls st M := R.2.2.2.2.2.2.1 ls st M h
theorem R_X2_find_179 {J : JT} {Q : QT} (R : R_X2_find J Q) {ls : Ls} {st : St} {M : Mem} (h : wpl J Q b_X2_find_179 ls st M) : J 179 ls st M := R.2.2.2.2.2.2.2.1 ls st M h
theorem R_X2_find_185 {J : JT} {Q : QT} (R : R_X2_find J Q) {ls : Ls} {st : St} {M : Mem} (h : wpl J Q b_X2_find_185 ls st M) : J 185 ls st M := R.2.2.2.2.2.2.2.2 ls st M h
theorem o117 : OB 117 2 := ⟨rfl, rfl⟩
theorem sh118 : SH 118 = (1, 10, 0, 0) := rfl
theorem sh119 : SH 119 = (1, 10, 0, 0) := rfl
theorem sh120 : SH 120 = (1, 1024, 0, 0) := rfl
theorem sh121 : SH 121 = (1, 1024, 0, 0) := rfl
theorem pl_117 {k : Nat} (h : PlanAt k) : k + 10 < 117 := by rcases h with rfl | rfl | rfl | rfl | rfl <;> omega
theorem pro_b {Ab : Mem} (ho : HallOK Ab) {m : Nat} (hm : m < nM Ab) : 0 ≤ Ab 8 m ∧ Ab 8 m < 2147483648 := (mo_bits ho hm).1
theorem P_X2_chooseThings {J : JT} {Q : QT} (R : R_X2_chooseThings J Q) {as : List Vl} {M : Mem} (h : nf G_X2_chooseThings as M Q) : (enL as).length ≤ 4 ∧ J 0 (padL 4 (enL as)) [] M := by
  unfold nf G_X2_chooseThings at h
  split at h
  · rename_i k pl m
    obtain ⟨Ab, rfl, ⟨hk, hp, ho⟩, ⟨m0, m1⟩, hQ⟩ := h
    have hl := pl_117 hk
    obtain ⟨n1, n2⟩ := nT_le ho
    obtain ⟨q1, q2⟩ := nM_le ho
    have hm : m.toNat < nM Ab := by omega
    have pb := pro_b ho hm
    generalize hb : Ab 8 m.toNat = b at hQ pb
    have hpk : ∀ M' : Mem, (∀ u v, u ≠ 118 → ¬ (u = 117 ∧ v = 0) → M' u v = M u v) → PlanRel M' pl Ab := fun M' h1 => hp.kept (fun u v q1 q2 => h1 u v (by omega) (by omega))
    have key : ∀ i, i ≤ nT Ab → ∀ (x : Int) (M' : Mem), x = (i : Int) → (∀ u v, u ≠ 118 → ¬ (u = 117 ∧ v = 0) → M' u v = M u v) → M' 117 0 = (fwN Ab b i : Nat) → (∀ k, k < fwN Ab b i → M' 118 k = Ab 1 (fwA Ab b i k)) → J 7 [some (vR 117), some (vR pl), some (vI m), some (vI x)] [] M' := by
      refine dn ?_ ?_
      · intro x M' hx h1 h2 h3
        have hp2 := hpk M' h1
        exact R_X2_chooseThings_7 R (an (pl_ob hk) (bt (show M' pl 3 ≤ x by rw [hp2.2.1]; omega) (R_X2_chooseThings_83 R (hQ M' h1 h2 h3))))
      · intro i hi ih x M' hx h1 h2 h3
        have hp2 := hpk M' h1
        have hxn : x.toNat = i := by omega
        obtain ⟨t1, t2, t3, t4⟩ := hp2.2.2.2.2.2.2.1 i hi
        have oi := ho.2.2.2.2.2.2.1 i hi
        have f10 := fwN_le Ab b i
        have np := ho.1
        have c9 : M' (pl + 9) m.toNat = b := by rw [← hb]; exact (hp2.2.2.2.2.2.2.2.2 m.toNat hm).2.1
        have skip : ¬ fwC2 Ab b i = true → J 77 [some (vR 117), some (vR pl), some (vI m), some (vI x)] [] M' := fun q => R_X2_chooseThings_77 R (ih _ _ (wn hx (by omega)) h1 (by rw [fwN, if_neg (fun z => q z.2)]; exact h2) (fun k hk2 => by
          rw [fwN, if_neg (fun z => q z.2)] at hk2
          rw [fwA, if_neg (fun z => q z.1.2)]; exact h3 k hk2))
        refine R_X2_chooseThings_7 R (an (pl_ob hk) (bf (show ¬ M' pl 3 ≤ x by rw [hp2.2.1]; omega) (an o117 (br (fun q => R_X2_chooseThings_83 R (hQ M' h1 ?_ (fun k hk2 => ?_))) (fun q => an (pl_ob hk) (an (ak_of (pl_5 hk) (by omega) (by omega)) ?_))))))
        · have q : (10 : Int) ≤ M' 117 0 := q
          have e10 : fwN Ab b i = 10 := by omega
          have := fwN_10 e10 (nT Ab - i)
          rw [show i + (nT Ab - i) = nT Ab by omega] at this
          rw [h2, e10, this]
        · have q : (10 : Int) ≤ M' 117 0 := q
          have e10 : fwN Ab b i = 10 := by omega
          have e11 := fwN_10 e10 (nT Ab - i)
          rw [show i + (nT Ab - i) = nT Ab by omega] at e11
          rw [e11] at hk2
          have st := fwA_st Ab b (t := i) (i := k) (by omega) (nT Ab - i)
          rw [show i + (nT Ab - i) = nT Ab by omega] at st
          unfold cwF
          rw [st]
          exact h3 k (by omega)
        · have q : ¬ (10 : Int) ≤ M' 117 0 := q
          rw [hxn, t3]
          refine br (fun d => skip (fun z => ?_)) (fun d => an (pl_ob hk) (an (ak_of (pl_3 hk) (by omega) (by omega)) (an (pl_ob hk) (an (ak_of (pl_9 hk) (by omega) (by omega)) ?_))))
          · have d : ¬ Ab 2 i = -1 := d
            simp [fwC2, d] at z
          · have d : Ab 2 i = -1 := Classical.not_not.mp d
            rw [hxn, t1, c9]
            refine an ⟨oi.1.1, by omega, pb.1, pb.2⟩ (br (fun w => bf (by decide) (an o117 (an o117 (an (pl_ob hk) (an (ak_of (pl_4 hk) (by omega) (by omega)) (an ?_ (an o117 (an o117 ?_)))))))) (fun w => bt rfl (skip (fun z => ?_))))
            · show AK 1 118 (M' 117 0)
              rw [h2]
              exact ak_of sh118 (by omega) (by omega)
            · have w : bitB b (Ab 0 i) = true := w
              have yes : fwN Ab b i < 10 ∧ fwC2 Ab b i = true := ⟨by omega, by simp [fwC2, d, w]⟩
              generalize hM2 : up M' (117 + 1) (M' 117 0).toNat (M' (pl + 4) x.toNat) = M2
              have k2 : ∀ u v, ¬ (u = 118 ∧ v = fwN Ab b i) → M2 u v = M' u v := fun u v hu => by rw [← hM2, h2, Int.toNat_natCast, up_ne (by omega)]
              have k3 : M2 118 (fwN Ab b i) = Ab 1 i := by rw [← hM2, h2, Int.toNat_natCast, hxn, t2]; exact up_eq
              refine R_X2_chooseThings_77 R (ih _ _ (wn hx (by omega)) (fun u v hu hv => ?_) ?_ (fun k hk2 => ?_))
              · rw [up_ne (by omega), k2 u v (by omega)]; exact h1 u v hu hv
              · rw [up_eq, fwN, if_pos yes, k2 _ _ (by omega), h2]
                exact wn rfl (by omega)
              · rw [up_ne (by omega)]
                rw [fwN, if_pos yes] at hk2
                rw [fwA]
                by_cases e : k = fwN Ab b i
                · rw [if_pos ⟨yes, e⟩, e]; exact k3
                · rw [if_neg (fun z => e z.2), k2 _ _ (by omega)]
                  exact h3 k (by omega)
            · have w : ¬ bitB b (Ab 0 i) = true := w
              simp [fwC2, w] at z
    refine ⟨Nat.le_of_ble_eq_true rfl, R_X2_chooseThings_0 R (an o117 (key 0 (Nat.zero_le _) _ _ rfl (fun u v hu hv => up_ne (by omega)) up_eq (fun k hk2 => ?_)))⟩
    simp [fwN] at hk2
  · exact h.elim
theorem P_X2_chooseCarriers {J : JT} {Q : QT} (R : R_X2_chooseCarriers J Q) {as : List Vl} {M : Mem} (h : nf G_X2_chooseCarriers as M Q) : (enL as).length ≤ 4 ∧ J 0 (padL 4 (enL as)) [] M := by
  unfold nf G_X2_chooseCarriers at h
  split at h
  · rename_i k pl m
    obtain ⟨Ab, rfl, ⟨hk, hp, ho⟩, ⟨m0, m1⟩, hQ⟩ := h
    have hl := pl_117 hk
    obtain ⟨n1, n2⟩ := nP_le ho
    obtain ⟨q1, q2⟩ := nM_le ho
    have hm : m.toNat < nM Ab := by omega
    have pb := pro_b ho hm
    have mi := (ho.2.2.2.2.2.2.2.2 _ hm).1
    generalize hb : Ab 8 m.toNat = b at hQ pb
    have hpk : ∀ M' : Mem, (∀ u v, u ≠ 119 → ¬ (u = 117 ∧ v = 2) → M' u v = M u v) → PlanRel M' pl Ab := fun M' h1 => hp.kept (fun u v q1 q2 => h1 u v (by omega) (by omega))
    have key : ∀ i, i ≤ nP Ab → ∀ (x : Int) (M' : Mem), x = (i : Int) → (∀ u v, u ≠ 119 → ¬ (u = 117 ∧ v = 2) → M' u v = M u v) → M' 117 2 = (crN b i : Nat) → (∀ k, k < crN b i → M' 119 k = 60 * Ab 5 (crA b i k) / (Ab 7 m.toNat + 1)) → J 7 [some (vR 117), some (vR pl), some (vI m), some (vI x)] [] M' := by
      refine dn ?_ ?_
      · intro x M' hx h1 h2 h3
        have hp2 := hpk M' h1
        exact R_X2_chooseCarriers_7 R (an (pl_ob hk) (bt (show M' pl 0 ≤ x by rw [hp2.1]; omega) (R_X2_chooseCarriers_82 R (hQ M' h1 h2 (fun c hc => by unfold ccF; rw [if_pos hc]; exact h3 c hc)))))
      · intro i hi ih x M' hx h1 h2 h3
        have hp2 := hpk M' h1
        have hxn : x.toNat = i := by omega
        obtain ⟨t1, t2⟩ := hp2.2.2.2.2.2.1 i hi
        have oi := (ho.2.2.2.2.2.1 i hi).2
        have f10 := crN_le b i
        have c9 : M' (pl + 9) m.toNat = b := by rw [← hb]; exact (hp2.2.2.2.2.2.2.2.2 m.toNat hm).2.1
        have c8 : M' (pl + 8) m.toNat = Ab 7 m.toNat := (hp2.2.2.2.2.2.2.2.2 m.toNat hm).1
        refine R_X2_chooseCarriers_7 R (an (pl_ob hk) (bf (show ¬ M' pl 0 ≤ x by rw [hp2.1]; omega) (an (pl_ob hk) (an (ak_of (pl_9 hk) (by omega) (by omega)) ?_))))
        rw [c9]
        refine an ⟨by omega, by omega, pb.1, pb.2⟩ (br (fun w => bf (by decide) (an o117 (bf (show ¬ (10 : Int) ≤ M' 117 2 by rw [h2]; omega) (an o117 (an o117 (an (pl_ob hk) (an (ak_of (pl_2 hk) (by omega) (by omega)) (an (pl_ob hk) (an (ak_of (pl_8 hk) (by omega) (by omega)) ?_))))))))) (fun w => bt rfl (R_X2_chooseCarriers_76 R (ih _ _ (wn hx (by omega)) h1 ?_ (fun k hk2 => ?_)))))
        · have w : bitB b (i : Int) = true := by rw [← hx]; exact w
          rw [hxn, t2, c8]
          have e60 : f_mul 60 (Ab 5 i) = 60 * Ab 5 i := w1 (by omega) (by omega) rfl
          have e1 : f_add (Ab 7 m.toNat) 1 = Ab 7 m.toNat + 1 := w1 (by omega) (by omega) rfl
          rw [e60]
          show (0 < f_add (Ab 7 m.toNat) 1 ∧ 0 ≤ 60 * Ab 5 i ∧ 60 * Ab 5 i < 2147483648) ∧ _
          rw [e1]
          clear e60 e1
          refine an ⟨by omega, by omega, by omega⟩ (an ?_ (an o117 (an o117 ?_)))
          · show AK 1 119 (M' 117 2)
            rw [h2]
            exact ak_of sh119 (by omega) (by omega)
          · generalize hM2 : up M' (117 + 2) (M' 117 2).toNat (60 * Ab 5 i / (Ab 7 m.toNat + 1)) = M2
            have k2 : ∀ u v, ¬ (u = 119 ∧ v = crN b i) → M2 u v = M' u v := fun u v hu => by rw [← hM2, h2, Int.toNat_natCast, up_ne (by omega)]
            have k3 : M2 119 (crN b i) = 60 * Ab 5 i / (Ab 7 m.toNat + 1) := by rw [← hM2, h2, Int.toNat_natCast]; exact up_eq
            refine R_X2_chooseCarriers_76 R (ih _ _ (wn hx (by omega)) (fun u v hu hv => ?_) ?_ (fun k hk2 => ?_))
            · rw [up_ne (by omega), k2 u v (by omega)]; exact h1 u v hu hv
            · rw [up_eq, crN, if_pos w, k2 _ _ (by omega), h2]
              exact wn rfl (by omega)
            · rw [up_ne (by omega)]
              rw [crN, if_pos w] at hk2
              rw [crA]
              by_cases e : k = crN b i
              · rw [if_pos ⟨w, e⟩, e]; exact k3
              · rw [if_neg (fun z => e z.2), k2 _ _ (by omega)]
                exact h3 k (by omega)
        · have w : ¬ bitB b (i : Int) = true := by rw [← hx]; exact w
          rw [crN, if_neg w]; exact h2
        · have w : ¬ bitB b (i : Int) = true := by rw [← hx]; exact w
          rw [crN, if_neg w] at hk2
          rw [crA, if_neg (fun z => w z.1)]
          exact h3 k hk2
    refine ⟨Nat.le_of_ble_eq_true rfl, R_X2_chooseCarriers_0 R (an o117 (key 0 (Nat.zero_le _) _ _ rfl (fun u v hu hv => up_ne (by omega)) up_eq (fun k hk2 => ?_)))⟩
    simp [crN] at hk2

  · exact h.elim