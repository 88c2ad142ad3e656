/-! words as the reference has them: a number of base 27 -/
def wcF (S : Nat → Int) : Nat → Int
  | 0 => 0
  | n + 1 => 27 * wcF S n + (S n - 96)
theorem wcF_bd {S : Nat → Int} : ∀ {n : Nat}, (∀ j, j < n → 97 ≤ S j ∧ S j ≤ 122) → 0 ≤ wcF S n ∧ wcF S n < 27 ^ n
  | 0, _ => by simp [wcF]
  | n + 1, h => by
    have ih := wcF_bd (S := S) (n := n) (fun j hj => h j (by omega))
    have h1 := h n (by omega)
    rw [wcF, Int.pow_succ]
    omega
theorem wcF_inj {S R : Nat → Int} : ∀ {n k : Nat}, (∀ j, j < n → 97 ≤ S j ∧ S j ≤ 122) → (∀ j, j < k → 97 ≤ R j ∧ R j ≤ 122) → wcF S n = wcF R k → n = k ∧ ∀ j, j < n → S j = R j
  | 0, 0, _, _, _ => ⟨rfl, fun j hj => by omega⟩
  | 0, k + 1, _, h2, h => by
    have b := wcF_bd (S := R) (n := k) (fun j hj => h2 j (by omega))
    have h1 := h2 k (by omega)
    rw [wcF, wcF] at h
    omega
  | n + 1, 0, h1, _, h => by
    have b := wcF_bd (S := S) (n := n) (fun j hj => h1 j (by omega))
    have h2 := h1 n (by omega)
    rw [wcF, wcF] at h
    omega
  | n + 1, k + 1, h1, h2, h => by
    have a1 := h1 n (by omega)
    have a2 := h2 k (by omega)
    rw [wcF, wcF] at h
    have e : wcF S n = wcF R k := by omega
    obtain ⟨q1, q2⟩ := wcF_inj (fun j hj => h1 j (by omega)) (fun j hj => h2 j (by omega)) e
    subst q1
    refine ⟨rfl, fun j hj => ?_⟩
    by_cases z : j = n
    · subst z; omega
    · exact q2 j (by omega)
theorem wcF_cong {S R : Nat → Int} : ∀ {n : Nat}, (∀ j, j < n → S j = R j) → wcF S n = wcF R n
  | 0, _ => rfl
  | n + 1, h => by rw [wcF, wcF, wcF_cong (fun j hj => h j (by omega)), h n (by omega)]
def whN (B : Nat → Int) (e t : Nat) : Int := if 8 < sk cLt B e t - t then -1 else wcF (fun j => B (t + j)) (sk cLt B e t - t)
def strS (i : Nat) : Nat → Int := fun j => (((strC i).getD j 0 : Nat) : Int)
def wdC (i : Nat) : Int := wcF (strS i) (strC i).length
theorem str_l : ∀ i, i < 7 → (strC i).length ≤ 7 ∧ ∀ j, j < (strC i).length → 97 ≤ (strC i).getD j 0 ∧ (strC i).getD j 0 ≤ 122 := by decide
theorem lt_in {B : Nat → Int} {e t j : Nat} (h : t + j < sk cLt B e t) : 97 ≤ B (t + j) ∧ B (t + j) ≤ 122 := by
  have := skp_in cLt B (e - t) t (t + j) (by omega) h
  simp only [cLt, Bool.and_eq_true, decide_eq_true_eq] at this
  exact this
/-- the word that stands at t is a given one -/
theorem wh_iff {B : Nat → Int} {e t i : Nat} (hi : i < 7) (ht : t ≤ e) : whN B e t = wdC i ↔ wdP B t (sk cLt B e t) i := by
  obtain ⟨l7, hl⟩ := str_l i hi
  have bd := sk_bd cLt B ht
  have sb : ∀ j, j < (strC i).length → 97 ≤ strS i j ∧ strS i j ≤ 122 := fun j hj => by have := hl j hj; unfold strS; omega
  have wb := wcF_bd sb
  unfold whN wdP
  by_cases c : 8 < sk cLt B e t - t
  · rw [if_pos c]
    constructor
    · intro h
      unfold wdC at h
      omega
    · intro h; omega
  · rw [if_neg c]
    constructor
    · intro h
      obtain ⟨q1, q2⟩ := wcF_inj (fun j hj => lt_in (e := e) (by omega)) sb h
      exact ⟨q1, fun j hj => q2 j (by omega)⟩
    · intro h
      unfold wdC
      rw [h.1]
      exact wcF_cong (fun j hj => h.2 j hj)
def G_X11_wordHere : FN := fun as M Q => match as with
  | [.inr (.inl k)] => ∃ B e p fk fp, k = 159 ∧ TRx M B e p fk fp ∧ ∀ M', TFr M M' → TRx M' B e (sk cBl B e p) fk fp → Q (some (vL (whN B e (sk cBl B e p)))) M'
  | _ => False
def sixF (a b c d e f : Int) : Int :=
  let v := 27 * (27 * a + b) + c
  let v := if d = 0 then v else 27 * v + d
  let v := if e = 0 then v else 27 * v + e
  if f = 0 then v else 27 * v + f
def G_X11_six : FN := fun as M Q => match as with
  | [.inl a, .inl b, .inl c, .inl d, .inl e, .inl f] => ((0 ≤ a ∧ a ≤ 26) ∧ (0 ≤ b ∧ b ≤ 26) ∧ (0 ≤ c ∧ c ≤ 26) ∧ (0 ≤ d ∧ d ≤ 26) ∧ (0 ≤ e ∧ e ≤ 26) ∧ (0 ≤ f ∧ f ≤ 26)) ∧ Q (some (vL (sixF a b c d e f))) M
  | _ => False
def G_X11_isWord : FN := fun as M Q => match as with
  | [.inr (.inl k), .inr (.inr (.inl w))] => ∃ B e p fp, k = 159 ∧ TRx M B e p 0 fp ∧ ∀ M', TFr M M' → TRx M' B e (sk cBl B e p) 0 fp → bq (whN B e (sk cBl B e p) = w) Q M'
  | _ => False
def b_X11_wordHere_0 : List AT := [tx_al 0, tx_callv 11 (nf G_X11_blanks) 0, tx_lc 0, tx_ls 1, tx_ic 0, tx_is 3, tx_fall 8]
def b_X11_wordHere_8 : List AT := tx_al 0 :: tx_al 0 :: tx_gi 11 4 :: tx_il 3 :: tx_bin f_add :: tx_callv 11 (nf G_X11_byteAt) 1 :: tx_ic 97 :: tx_cmp r_lt 78 :: tx_al 0 :: tx_al 0 :: tx_gi 11 4 :: tx_il 3 :: tx_bin f_add :: tx_callv 11 (nf G_X11_byteAt) 1 :: tx_ic 122 :: tx_cmp r_gt 78 :: tx_il 3 :: tx_ic 8 :: tx_cmp r_ge 70 :: tx_lc 27 :: tx_ll 1 :: tx_lbin f_mulL :: tx_al 0 :: tx_al 0 :: tx_gi 11 4 :: tx_il 3 :: tx_bin f_add :: tx_callv 11 (nf G_X11_byteAt) 1 :: tx_i2l :: tx_lbin f_addL :: tx_lc 97 :: tx_lbin f_subL :: tx_lc 1 :: tx_lbin f_addL :: tx_fall 71 :: []
def b_X11_wordHere_70 : List AT := [tx_ll 1, tx_fall 71]
def b_X11_wordHere_71 : List AT := [tx_ls 1, tx_inc 3 1, tx_fall 8]
def b_X11_wordHere_78 : List AT := [tx_il 3, tx_ic 8, tx_cmp r_le 90, tx_lc (-1), tx_fall 91]
def b_X11_wordHere_90 : List AT := [tx_ll 1, tx_fall 91]
def b_X11_wordHere_91 : List AT := [tx_rl]
def R_X11_wordHere (J : JT) (Q : QT) : Prop := (∀ ls st M, wpl J Q b_X11_wordHere_0 ls st M → J 0 ls st M) ∧ (∀ ls st M, wpl J Q b_X11_wordHere_8 ls st M → J 8 ls st M) ∧ (∀ ls st M, wpl J Q b_X11_wordHere_70 ls st M → J 70 ls st M) ∧ (∀ ls st M, wpl J Q b_X11_wordHere_71 ls st M → J 71 ls st M) ∧ (∀ ls st M, wpl J Q b_X11_wordHere_78 ls st M → J 78 ls st M) ∧ (∀ ls st M, wpl J Q b_X11_wordHere_90 ls st M → J 90 ls st M) ∧ (∀ ls st M, wpl J Q b_X11_wordHere_91 ls st M → J 91 ls st M)
theorem R_X11_wordHere_0 {J : JT} {Q : QT} (R : R_X11_wordHere J Q) {ls : Ls} {st : St} {M : Mem} (h : wpl J Q b_X11_wordHere_0 ls st M) : J 0 ls st M := R.1 ls st M h
theorem R_X11_wordHere_8 {J : JT} {Q : QT} (R : R_X11_wordHere J Q) {ls : Ls} {st : St} {M : Mem} (h : wpl J Q b_X11_wordHere_8 ls st M) : J 8 ls st M := R.2.1 ls st M h
theorem R_X11_wordHere_70 {J : JT} {Q : QT} (R : R_X11_wordHere J Q) {ls : Ls} {st : St} {M : Mem} (h : wpl J Q b_X11_wordHere_70 ls st M) : J 70 ls st M := R.2.2.1 ls st M h
theorem R_X11_wordHere_71 {J : JT} {Q : QT} (R : R_X11_wordHere J Q) {ls : Ls} {st : St} {M : Mem} (h : wpl J Q b_X11_wordHere_71 ls st M) : J 71 ls st M := R.2.2.2.1 ls st M h
theorem R_X11_wordHere_78 {J : JT} {Q : QT} (R : R_X11_wordHere J Q) {ls : Ls} {st : St} {M : Mem} (h : wpl J Q b_X11_wordHere_78 ls st M) : J 78 ls st M := R.2.2.2.2.1 ls st M h
theorem R_X11_wordHere_90 {J : JT} {Q : QT} (R : R_X11_wordHere J Q) {ls : Ls} {st : St} {M : Mem} (h : wpl J Q b_X11_wordHere_90 ls st M) : J 90 ls st M := R.2.2.2.2.2.1 ls st M h
theorem R_X11_wordHere_91 {J : JT} {Q : QT} (R : R_X11_wordHere J Q) {ls : Ls} {st : St} {M : Mem} (h : wpl J Q b_X11_wordHere_91 ls st M) : J 91 ls st M := R.2.2.2.2.2.2 ls st M h
def b_X11_six_0 : List AT := [tx_lc 27, tx_lc 27, tx_il 0, tx_i2l, tx_lbin f_mulL, tx_il 1, tx_i2l, tx_lbin f_addL, tx_lbin f_mulL, tx_il 2, tx_i2l, tx_lbin f_addL, tx_ls 6, tx_il 3, tx_ifz r_ne 27, tx_ll 6, tx_fall 36]
def b_X11_six_27 : List AT := [tx_lc 27, tx_ll 6, tx_lbin f_mulL, tx_il 3, tx_i2l, tx_lbin f_addL, tx_fall 36]
def b_X11_six_36 : List AT := [tx_ls 6, tx_il 4, tx_ifz r_ne 48, tx_ll 6, tx_fall 58]
def b_X11_six_48 : List AT := [tx_lc 27, tx_ll 6, tx_lbin f_mulL, tx_il 4, tx_i2l, tx_lbin f_addL, tx_fall 58]
def b_X11_six_58 : List AT := [tx_ls 6, tx_il 5, tx_ifz r_ne 70, tx_ll 6, tx_fall 80]
def b_X11_six_70 : List AT := [tx_lc 27, tx_ll 6, tx_lbin f_mulL, tx_il 5, tx_i2l, tx_lbin f_addL, tx_fall 80]
def b_X11_six_80 : List AT := [tx_rl]
def R_X11_six (J : JT) (Q : QT) : Prop := (∀ ls st M, wpl J Q b_X11_six_0 ls st M → J 0 ls st M) ∧ (∀ ls st M, wpl J Q b_X11_six_27 ls st M → J 27 ls st M) ∧ (∀ ls st M, wpl J Q b_X11_six_36 ls st M → J 36 ls st M) ∧ (∀ ls st M, wpl J Q b_X11_six_48 ls st M → J 48 ls st M) ∧ (∀ ls st M, wpl J Q b_X11_six_58 ls st M → J 58 ls st M) ∧ (∀ ls st M, wpl J Q b_X11_six_70 ls st M → J 70 ls st M) ∧ (∀ ls st M, wpl J Q b_X11_six_80 ls st M → J 80 ls st M)
theorem R_X11_six_0 {J : JT} {Q : QT} (R : R_X11_six J Q) {ls : Ls} {st : St} {M : Mem} (h : wpl J Q b_X11_six_0 ls st M) : J 0 ls st M := R.1 ls st M h
theorem R_X11_six_27 {J : JT} {Q : QT} (R : R_X11_six J Q) {ls : Ls} {st : St} {M : Mem} (h : wpl J Q b_X11_six_27 ls st M) : J 27 ls st M := R.2.1 ls st M h
theorem R_X11_six_36 {J : JT} {Q : QT} (R : R_X11_six J Q) {ls : Ls} {st : St} {M : Mem} (h : wpl J Q b_X11_six_36 ls st M) : J 36 ls st M := R.2.2.1 ls st M h
theorem R_X11_six_48 {J : JT} {Q : QT} (R : R_X11_six J Q) {ls : Ls} {st : St} {M : Mem} (h : wpl J Q b_X11_six_48 ls st M) : J 48 ls st M := R.2.2.2.1 ls st M h
theorem R_X11_six_58 {J : JT} {Q : QT} (R : R_X11_six J Q) {ls : Ls} {st : St} {M : Mem} (h : wpl J Q b_X11_six_58 ls st M) : J 58 ls st M := R.2.2.2.2.1 ls st M h
theorem R_X11_six_70 {J : JT} {Q : QT} (R : R_X11_six J Q) {ls : Ls} {st : St} {M : Mem} (h : wpl J Q b_X11_six_70 ls st M) : J 70 ls st M := R.2.2.2.2.2.1 ls st M h
theorem R_X11_six_80 {J : JT} {Q : QT} (R : R_X11_six J Q) {ls : Ls} {st : St} {M : Mem} (h : wpl J Q b_X11_six_80 ls st M) : J 80 ls st M := R.2.2.2.2.2.2 ls st M h
def b_X11_isWord_0 : List AT := [tx_al 0, tx_gi 11 5, tx_ifz r_ne 20, tx_al 0, tx_callv 11 (nf G_X11_wordHere) 0, tx_ll 1, tx_lcmp, tx_ifz r_ne 20, tx_ic 1, tx_fall 21]
def b_X11_isWord_20 : List AT := [tx_ic 0, tx_fall 21]
def b_X11_isWord_21 : List AT := [tx_rz]
def R_X11_isWord (J : JT) (Q : QT) : Prop := (∀ ls st M, wpl J Q b_X11_isWord_0 ls st M → J 0 ls st M) ∧ (∀ ls st M, wpl J Q b_X11_isWord_20 ls st M → J 20 ls st M) ∧ (∀ ls st M, wpl J Q b_X11_isWord_21 ls st M → J 21 ls st M)
theorem R_X11_isWord_0 {J : JT} {Q : QT} (R : R_X11_isWord J Q) {ls : Ls} {st : St} {M : Mem} (h : wpl J Q b_X11_isWord_0 ls st M) : J 0 ls st M := R.1 ls st M h
theorem R_X11_isWord_20 {J : JT} {Q : QT} (R : R_X11_isWord J Q) {ls : Ls} {st : St} {M : Mem} (h : wpl J Q b_X11_isWord_20 ls st M) : J 20 ls st M := R.2.1 ls st M h
theorem R_X11_isWord_21 {J : JT} {Q : QT} (R : R_X11_isWord J Q) {ls : Ls} {st : St} {M : Mem} (h : wpl J Q b_X11_isWord_21 ls st M) : J 21 ls st M := R.2.2 ls st M h
theorem w6 {x y : Int} (h0 : -9223372036854775808 ≤ y) (h : y < 9223372036854775808) (e : x = y) : w64 x = y := by
  subst e
  exact w64_id ⟨h0, h⟩
theorem ml {v d : Int} (h0 : 0 ≤ v) (h1 : v < 1000000000000) (h2 : 0 ≤ d) (h3 : d ≤ 1000) : f_addL (f_mulL 27 v) d = 27 * v + d := by
  unfold f_addL f_mulL
  rw [w6 (x := 27 * v) (y := 27 * v) (by omega) (by omega) rfl]
  exact w6 (by omega) (by omega) rfl
theorem P_X11_six {J : JT} {Q : QT} (R : R_X11_six J Q) {as : List Vl} {M : Mem} (h : nf G_X11_six as M Q) : (enL as).length ≤ 8 ∧ J 0 (padL 8 (enL as)) [] M := by
  unfold nf G_X11_six at h
  split at h
  · rename_i a b c d e f
    obtain ⟨⟨ha, hb, hc, hd, he, hf⟩, hQ⟩ := h
    have e0 : f_addL (f_mulL 27 (f_addL (f_mulL 27 a) b)) c = 27 * (27 * a + b) + c := by
      rw [ml (v := a) (d := b) (by omega) (by omega) (by omega) (by omega)]
      exact ml (by omega) (by omega) (by omega) (by omega)
    unfold sixF at hQ
    generalize hv : 27 * (27 * a + b) + c = v at hQ e0
    have vb : 0 ≤ v ∧ v ≤ 20000 := by omega
    have at80 : ∀ (y w : Int), 0 ≤ y → y ≤ 20000000 → w = (if f = 0 then y else 27 * y + f) → (∀ z : Int, z = (if d = 0 then v else 27 * v + d) → y = (if e = 0 then z else 27 * z + e)) → J 80 [some (vI a), some (vI b), some (vI c), some (vI d), some (vI e), some (vI f), some (vL y), none] [vL w] M := by
      intro y w y0 y1 hw hy
      refine R_X11_six_80 R ?_
      show Q (.inl (some (vL w))) M
      rw [hw, hy _ rfl]
      exact hQ
    have at58 : ∀ (z0 y : Int), 0 ≤ y → y ≤ 20000000 → (∀ z : Int, z = (if d = 0 then v else 27 * v + d) → y = (if e = 0 then z else 27 * z + e)) → J 58 [some (vI a), some (vI b), some (vI c), some (vI d), some (vI e), some (vI f), some (vL z0), none] [vL y] M := by
      intro z0 y y0 y1 hy
      refine R_X11_six_58 R (br (fun g => R_X11_six_70 R ?_) (fun g => at80 y y y0 y1 ?_ hy))
      · have g : ¬ f = 0 := g
        show J 80 _ [vL (f_addL (f_mulL 27 y) f)] M
        rw [ml (by omega) (by omega) (by omega) (by omega)]
        exact at80 y _ y0 y1 (by rw [if_neg g]) hy
      · have g : f = 0 := Classical.not_not.mp g
        rw [if_pos g]
    have at36 : ∀ (z0 y : Int), 0 ≤ y → y ≤ 600000 → y = (if d = 0 then v else 27 * v + d) → J 36 [some (vI a), some (vI b), some (vI c), some (vI d), some (vI e), some (vI f), some (vL z0), none] [vL y] M := by
      intro z0 y y0 y1 hy
      refine R_X11_six_36 R (br (fun g => R_X11_six_48 R ?_) (fun g => at58 y y y0 (by omega) (fun z hz => ?_)))
      · have g : ¬ e = 0 := g
        show J 58 _ [vL (f_addL (f_mulL 27 y) e)] M
        rw [ml (by omega) (by omega) (by omega) (by omega)]
        exact at58 y _ (by omega) (by omega) (fun z hz => by rw [if_neg g, hz, ← hy])
      · have g : e = 0 := Classical.not_not.mp g
        rw [if_pos g, hz]; exact hy
    refine ⟨Nat.le_of_ble_eq_true rfl, R_X11_six_0 R ?_⟩
    show (¬ d = 0 → J 27 [some (vI a), some (vI b), some (vI c), some (vI d), some (vI e), some (vI f), some (vL (f_addL (f_mulL 27 (f_addL (f_mulL 27 a) b)) c)), none] [] M) ∧ (¬ ¬ d = 0 → J 36 [some (vI a), some (vI b), some (vI c), some (vI d), some (vI e), some (vI f), some (vL (f_addL (f_mulL 27 (f_addL (f_mulL 27 a) b)) c)), none] [vL (f_addL (f_mulL 27 (f_addL (f_mulL 27 a) b)) c)] M)
    rw [e0]
    refine ⟨fun g => R_X11_six_27 R ?_, fun g => at36 v v vb.1 (by omega) (by rw [if_pos (Classical.not_not.mp g)])⟩
    show J 36 _ [vL (f_addL (f_mulL 27 v) d)] M
    rw [ml (by omega) (by omega) (by omega) (by omega)]
    exact at36 v _ (by omega) (by omega) (by rw [if_neg g])
  · exact h.elim
theorem P_X11_wordHere {J : JT} {Q : QT} (R : R_X11_wordHere J Q) {as : List Vl} {M : Mem} (h : nf G_X11_wordHere as M Q) : (enL as).length ≤ 4 ∧ J 0 (padL 4 (enL as)) [] M := by
  unfold nf G_X11_wordHere at h
  split at h
  · rename_i k
    obtain ⟨B, e, p, fk, fp, rfl, ts, hQ⟩ := h
    refine ⟨Nat.le_of_ble_eq_true rfl, R_X11_wordHere_0 R (an o159 ⟨B, e, p, fk, fp, rfl, ts, fun M1 tf1 ts1 => ?_⟩)⟩
    have hq := hQ M1 tf1 ts1
    generalize sk cBl B e p = t at ts1 hq
    have e600 := ts1.2.2.2.2.1
    have te := ts1.2.2.2.2.2.1
    have fin : ∀ (v : Int) (n : Nat) (y : Int), y = (n : Int) → t + n = sk cLt B e t → v = wcF (fun j => B (t + j)) (min n 8) → J 78 [some (vR 159), some (vL v), none, some (vI y)] [] M1 := by
      intro v n y hy hn hv
      unfold whN at hq
      rw [show sk cLt B e t - t = n by omega] at hq
      refine R_X11_wordHere_78 R (br (fun g => R_X11_wordHere_90 R (R_X11_wordHere_91 R ?_)) (fun g => R_X11_wordHere_91 R ?_))
      · have g : y ≤ 8 := g
        rw [if_neg (by omega)] at hq
        show Q (.inl (some (vL v))) M1
        rw [hv, show min n 8 = n by omega]
        exact hq
      · have g : ¬ y ≤ 8 := g
        rw [if_pos (by omega)] at hq
        exact hq
    have key : ∀ d n : Nat, d = e - (t + n) → t + n ≤ e → ∀ (v y : Int), y = (n : Int) → (∀ j, j < n → 97 ≤ B (t + j) ∧ B (t + j) ≤ 122) → sk cLt B e (t + n) = sk cLt B e t → v = wcF (fun j => B (t + j)) (min n 8) → J 8 [some (vR 159), some (vL v), none, some (vI y)] [] M1 := by
      intro d
      induction d with
      | zero =>
        intro n hd hn v y hy hl hs hv
        have pe : t + n = e := by omega
        have ea : f_add (M1 159 4) y = ((t + n : Nat) : Int) := by rw [ts1.2.1, hy]; exact w1 (by omega) (by omega) (by omega)
        refine R_X11_wordHere_8 R (an o159 (an o159 ⟨B, e, t, fk, fp, t + n, ⟨rfl, ea⟩, ts1, ?_⟩))
        unfold btF
        rw [if_neg (by omega)]
        exact bt (by decide) (fin v n y hy (by rw [← hs, pe, sk_e]) hv)
      | succ d ih =>
        intro n hd hn v y hy hl hs hv
        have pe : t + n < e := by omega
        have ea : f_add (M1 159 4) y = ((t + n : Nat) : Int) := by rw [ts1.2.1, hy]; exact w1 (by omega) (by omega) (by omega)
        have hb : btF B e (t + n) = B (t + n) := by unfold btF; rw [if_pos pe]
        have no : ¬ cLt (B (t + n)) = true → J 78 [some (vR 159), some (vL v), none, some (vI y)] [] M1 := fun z => fin v n y hy (by rw [← hs, sk_n pe z]) hv
        refine R_X11_wordHere_8 R (an o159 (an o159 ⟨B, e, t, fk, fp, t + n, ⟨rfl, ea⟩, ts1, ?_⟩))
        rw [hb]
        refine br (fun g => no ?_) (fun g => an o159 (an o159 ⟨B, e, t, fk, fp, t + n, ⟨rfl, ea⟩, ts1, ?_⟩))
        · have g : B (t + n) < 97 := g
          simp only [cLt, Bool.and_eq_true, decide_eq_true_eq]
          omega
        · have g : ¬ B (t + n) < 97 := g
          rw [hb]
          refine br (fun g2 => no ?_) (fun g2 => ?_)
          · have g2 : 122 < B (t + n) := g2
            simp only [cLt, Bool.and_eq_true, decide_eq_true_eq]
            omega
          · have g2 : ¬ 122 < B (t + n) := g2
            have hc : cLt (B (t + n)) = true := by simp only [cLt, Bool.and_eq_true, decide_eq_true_eq]; omega
            have nx : ∀ v2 : Int, v2 = wcF (fun j => B (t + j)) (min (n + 1) 8) → J 71 [some (vR 159), some (vL v), none, some (vI y)] [vL v2] M1 := by
              intro v2 hv2
              refine R_X11_wordHere_71 R (ih (n + 1) (by omega) (by omega) v2 _ (wn hy (by omega)) (fun j hj => ?_) ?_ hv2)
              · by_cases z : j = n
                · subst z; omega
                · exact hl j (by omega)
              · rw [← hs, sk_y pe hc]
                rfl
            refine br (fun g3 => R_X11_wordHere_70 R (nx v ?_)) (fun g3 => an o159 (an o159 ⟨B, e, t, fk, fp, t + n, ⟨rfl, ea⟩, ts1, ?_⟩))
            · have g3 : 8 ≤ y := g3
              rw [show min (n + 1) 8 = min n 8 by omega]; exact hv
            · have g3 : ¬ 8 ≤ y := g3
              rw [hb]
              clear ea
              have vb := wcF_bd (S := fun j => B (t + j)) (n := n) hl
              have p7 : (27 : Int) ^ n ≤ 27 ^ 7 := by
                have : (27 : Nat) ^ n ≤ 27 ^ 7 := Nat.pow_le_pow_right (by decide) (by omega)
                have h2 : (((27 : Nat) ^ n : Nat) : Int) ≤ (((27 : Nat) ^ 7 : Nat) : Int) := by omega
                rw [Int.natCast_pow, Int.natCast_pow] at h2
                exact h2
              rw [show min n 8 = n by omega] at hv
              have ev : f_addL (f_subL (f_addL (f_mulL 27 v) (B (t + n))) 97) 1 = 27 * v + (B (t + n) - 96) := by
                have v1 : 0 ≤ v ∧ v < 27 ^ 7 := by rw [hv]; omega
                rw [ml (by omega) (by omega) (by omega) (by omega)]
                unfold f_addL f_subL
                rw [w6 (x := 27 * v + B (t + n) - 97) (y := 27 * v + B (t + n) - 97) (by omega) (by omega) rfl]
                exact w6 (by omega) (by omega) (by omega)
              show J 71 _ [vL (f_addL (f_subL (f_addL (f_mulL 27 v) (B (t + n))) 97) 1)] M1
              rw [ev]
              refine nx _ ?_
              rw [show min (n + 1) 8 = n + 1 by omega, wcF, ← hv]
    exact key _ 0 rfl te 0 0 rfl (fun j hj => absurd hj (Nat.not_lt_zero j)) rfl rfl
  · exact h.elim
theorem P_X11_isWord {J : JT} {Q : QT} (R : R_X11_isWord J Q) {as : List Vl} {M : Mem} (h : nf G_X11_isWord as M Q) : (enL as).length ≤ 3 ∧ J 0 (padL 3 (enL as)) [] M := by
  unfold nf G_X11_isWord at h
  split at h
  · rename_i k w
    obtain ⟨B, e, p, fp, rfl, ts, hQ⟩ := h
    refine ⟨Nat.le_of_ble_eq_true rfl, R_X11_isWord_0 R (an o159 (bf (show ¬ ¬ M 159 5 = 0 from fun z => z ts.2.2.1) (an o159 ⟨B, e, p, 0, fp, rfl, ts, fun M1 tf1 ts1 => ?_⟩)))⟩
    have hq := hQ M1 tf1 ts1
    have ec : ∀ x y : Int, cmpL x y = 0 ↔ x = y := by
      intro x y
      unfold cmpL
      by_cases h1 : y < x
      · rw [if_pos h1]; omega
      · rw [if_neg h1]
        by_cases h2 : x = y
        · rw [if_pos h2]; simp [h2]
        · rw [if_neg h2]; simp [h2]
    exact br (fun g => R_X11_isWord_20 R (R_X11_isWord_21 R (an (Or.inl rfl) (hq.2 (fun z => g ((ec _ _).mpr z)))))) (fun g => R_X11_isWord_21 R (an (Or.inr rfl) (hq.1 ((ec _ _).mp (Classical.not_not.mp g)))))

  · exact h.elim