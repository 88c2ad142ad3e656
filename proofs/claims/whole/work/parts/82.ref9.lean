/-! the reference's image, restore, feed -/
def G_X11_image : FN := fun as M Q => match as with
  | [.inr (.inl k)] => k = 159 ∧ mS cd1 an_image M Q
  | _ => False
def G_X11_restore : FN := fun as M Q => match as with
  | [.inr (.inl k)] => k = 159 ∧ mS cd1 an_restore M Q
  | _ => False
def G_X11_feed : FN := fun as M Q => match as with
  | [.inr (.inl k), .inl a, .inl b, .inl c, .inl d, .inl e] => (k = 159 ∧ okI a ∧ okI b ∧ okI c ∧ okI d ∧ okI e) ∧ mS cd1 (an_feed a b c d e) M Q
  | _ => False
def b_X11_image_0 : List AT := [tx_al 0, tx_ic 0, tx_pi 11 0, tx_al 0, tx_gi 11 24, tx_ic 3, tx_cmp r_ne 15, tx_ic (-1), tx_ri]
def b_X11_image_15 : List AT := [tx_al 0, tx_al 0, tx_gr 11 129, tx_al 0, tx_gi 11 24, tx_aa 5, tx_ic 0, tx_callv 11 (nf G_X11_movesAll) 2, tx_al 0, tx_dup, tx_gi 11 24, tx_ic 1, tx_bin f_add, tx_pi 11 24, tx_al 0, tx_gi 11 24, tx_ri]
def R_X11_image (J : JT) (Q : QT) : Prop := (∀ ls st M, wpl J Q b_X11_image_0 ls st M → J 0 ls st M) ∧ (∀ ls st M, wpl J Q b_X11_image_15 ls st M → J 15 ls st M)
theorem R_X11_image_0 {J : JT} {Q : QT} (R : R_X11_image J Q) {ls : Ls} {st : St} {M : Mem} (h : wpl J Q b_X11_image_0 ls st M) : J 0 ls st M := R.1 ls st M h
theorem R_X11_image_15 {J : JT} {Q : QT} (R : R_X11_image J Q) {ls : Ls} {st : St} {M : Mem} (h : wpl J Q b_X11_image_15 ls st M) : J 15 ls st M := R.2 ls st M h
def b_X11_restore_0 : List AT := [tx_al 0, tx_ic 0, tx_pi 11 0, tx_al 0, tx_gi 11 24, tx_ifz r_ne 14, tx_ic (-1), tx_ri]
def b_X11_restore_14 : List AT := [tx_al 0, tx_dup, tx_gi 11 24, tx_ic 1, tx_bin f_sub, tx_pi 11 24, tx_al 0, tx_al 0, tx_gr 11 129, tx_al 0, tx_gi 11 24, tx_aa 5, tx_ic 1, tx_callv 11 (nf G_X11_movesAll) 2, tx_al 0, tx_gi 11 24, tx_ri]
def R_X11_restore (J : JT) (Q : QT) : Prop := (∀ ls st M, wpl J Q b_X11_restore_0 ls st M → J 0 ls st M) ∧ (∀ ls st M, wpl J Q b_X11_restore_14 ls st M → J 14 ls st M)
theorem R_X11_restore_0 {J : JT} {Q : QT} (R : R_X11_restore J Q) {ls : Ls} {st : St} {M : Mem} (h : wpl J Q b_X11_restore_0 ls st M) : J 0 ls st M := R.1 ls st M h
theorem R_X11_restore_14 {J : JT} {Q : QT} (R : R_X11_restore J Q) {ls : Ls} {st : St} {M : Mem} (h : wpl J Q b_X11_restore_14 ls st M) : J 14 ls st M := R.2 ls st M h
def b_X11_feed_0 : List AT := [tx_al 0, tx_ic 0, tx_pi 11 0, tx_al 0, tx_gi 11 1, tx_ic 20, tx_bin f_add, tx_ic 600, tx_cmp r_le 20, tx_ic (-1), tx_ri]
def b_X11_feed_20 : List AT := [tx_ic 0, tx_is 6, tx_fall 23]
def b_X11_feed_23 : List AT := [tx_il 6, tx_ic 20, tx_cmp r_ge 120, tx_il 6, tx_ic 4, tx_cmp r_ge 40, tx_il 1, tx_fall 76]
def b_X11_feed_40 : List AT := [tx_il 6, tx_ic 8, tx_cmp r_ge 51, tx_il 2, tx_fall 76]
def b_X11_feed_51 : List AT := [tx_il 6, tx_ic 12, tx_cmp r_ge 62, tx_il 3, tx_fall 76]
def b_X11_feed_62 : List AT := [tx_il 6, tx_ic 16, tx_cmp r_ge 74, tx_il 4, tx_fall 76]
def b_X11_feed_74 : List AT := [tx_il 5, tx_fall 76]
def b_X11_feed_76 : List AT := tx_is 7 :: tx_al 0 :: tx_gr 11 1 :: tx_al 0 :: tx_gi 11 1 :: tx_il 7 :: tx_ic 24 :: tx_ic 8 :: tx_il 6 :: tx_ic 4 :: tx_rem :: tx_bin f_mul :: tx_bin f_sub :: tx_bin shrI :: tx_ic 255 :: tx_bin andI :: tx_iax :: tx_al 0 :: tx_dup :: tx_gi 11 1 :: tx_ic 1 :: tx_bin f_add :: tx_pi 11 1 :: tx_inc 6 1 :: tx_fall 23 :: []
def b_X11_feed_120 : List AT := [tx_al 0, tx_gi 11 1, tx_ri]
def R_X11_feed (J : JT) (Q : QT) : Prop := (∀ ls st M, wpl J Q b_X11_feed_0 ls st M → J 0 ls st M) ∧ (∀ ls st M, wpl J Q b_X11_feed_20 ls st M → J 20 ls st M) ∧ (∀ ls st M, wpl J Q b_X11_feed_23 ls st M → J 23 ls st M) ∧ (∀ ls st M, wpl J Q b_X11_feed_40 ls st M → J 40 ls st M) ∧ (∀ ls st M, wpl J Q b_X11_feed_51 ls st M → J 51 ls st M) ∧ (∀ ls st M, wpl J Q b_X11_feed_62 ls st M → J 62 ls st M) ∧ (∀ ls st M, wpl J Q b_X11_feed_74 ls st M → J 74 ls st M) ∧ (∀ ls st M, wpl J Q b_X11_feed_76 ls st M → J 76 ls st M) ∧ (∀ ls st M, wpl J Q b_X11_feed_120 ls st M → J 120 ls st M)
theorem R_X11_feed_0 {J : JT} {Q : QT} (R : R_X11_feed J Q) {ls : Ls} {st : St} {M : Mem} (h : wpl J Q b_X11_feed_0 ls st M) : J 0 ls st M := R.1 ls st M h
theorem R_X11_feed_20 {J : JT} {Q : QT} (R : R_X11_feed J Q) {ls : Ls} {st : St} {M : Mem} (h : wpl J Q b_X11_feed_20 ls st M) : J 20 ls st M := R.2.1 ls st M h
theorem R_X11_feed_23 {J : JT} {Q : QT} (R : R_X11_feed J Q) {ls : Ls} {st : St} {M : Mem} (h : wpl J Q b_X11_feed_23 ls st M) : J 23 ls st M := R.2.2.1 ls st M h
theorem R_X11_feed_40 {J : JT} {Q : QT} (R : R_X11_feed J Q) {ls : Ls} {st : St} {M : Mem} (h : wpl J Q b_X11_feed_40 ls st M) : J 40 ls st M := R.2.2.2.1 ls st M h
theorem R_X11_feed_51 {J : JT} {Q : QT} (R : R_X11_feed J Q) {ls : Ls} {st : St} {M : Mem} (h : wpl J Q b_X11_feed_51 ls st M) : J 51 ls st M := R.2.2.2.2.1 ls st M h
theorem R_X11_feed_62 {J : JT} {Q : QT} (R : R_X11_feed J Q) {ls : Ls} {st : St} {M : Mem} (h : wpl J Q b_X11_feed_62 ls st M) : J 62 ls st M := R.2.2.2.2.2.1 ls st M h
theorem R_X11_feed_74 {J : JT} {Q : QT} (R : R_X11_feed J Q) {ls : Ls} {st : St} {M : Mem} (h : wpl J Q b_X11_feed_74 ls st M) : J 74 ls st M := R.2.2.2.2.2.2.1 ls st M h
theorem R_X11_feed_76 {J : JT} {Q : QT} (R : R_X11_feed J Q) {ls : Ls} {st : St} {M : Mem} (h : wpl J Q b_X11_feed_76 ls st M) : J 76 ls st M := R.2.2.2.2.2.2.2.1 ls st M h
theorem R_X11_feed_120 {J : JT} {Q : QT} (R : R_X11_feed J Q) {ls : Ls} {st : St} {M : Mem} (h : wpl J Q b_X11_feed_120 ls st M) : J 120 ls st M := R.2.2.2.2.2.2.2.2 ls st M h
theorem sh288 : SH 288 = (5, 3, 289, 1) := rfl
theorem ke_row {x : Int} {i : Nat} (h : x.toNat = i) : (SH (159 + 129)).2.2.1 + (SH (159 + 129)).2.2.2 * x.toNat = 289 + i := by
  rw [h]
  show 289 + 1 * i = 289 + i
  omega
theorem pcs_l {j c : Nat} (hj : j < 20) (hc : c < 4) : pcs (2 + 4 * j + c) = (256 + j, c) := by
  unfold pcs
  rw [if_neg (by omega), if_pos (by omega), show 2 + 4 * j + c - 2 = 4 * j + c by omega]
  have q1 : (4 * j + c) / 4 = j := by omega
  have q2 : (4 * j + c) % 4 = c := by omega
  rw [q1, q2]
theorem pcs_v {j c : Nat} (hj : j < 9) (hc : c < 3) : pcs (82 + 3 * j + c) = (279 + j, c) := by
  unfold pcs
  rw [if_neg (by omega), if_neg (by omega), show 82 + 3 * j + c - 82 = 3 * j + c by omega]
  have q1 : (3 * j + c) / 3 = j := by omega
  have q2 : (3 * j + c) % 3 = c := by omega
  rw [q1, q2]
theorem MdP.kept2 {M M' Ab : Mem} (h : MdP M Ab) (e : ∀ u v, 162 ≤ u → u < 278 → M' u v = M u v) : MdP M' Ab := by
  obtain ⟨ho, ⟨a0, a1, a2, a3, a4⟩, h1, h2, h3, h4⟩ := h
  have p1 := (nP_le ho).1
  have t1 := (nT_le ho).1
  have m1 := (nM_le ho).1
  refine ⟨ho, ⟨by rw [e _ _ (by omega) (by omega)]; exact a0, by rw [e _ _ (by omega) (by omega)]; exact a1, by rw [e _ _ (by omega) (by omega)]; exact a2, by rw [e _ _ (by omega) (by omega)]; exact a3, by rw [e _ _ (by omega) (by omega)]; exact a4⟩, fun p hp => ?_, fun p hp => ?_, fun p hp => ?_, fun p hp => ?_⟩
  · rw [e _ _ (by omega) (by omega), e _ _ (by omega) (by omega)]; exact h1 p hp
  · rw [e _ _ (by omega) (by omega), e _ _ (by omega) (by omega), e _ _ (by omega) (by omega), e _ _ (by omega) (by omega)]; exact h2 p hp
  · rw [e _ _ (by omega) (by omega)]; exact h3 p hp
  · rw [e _ _ (by omega) (by omega), e _ _ (by omega) (by omega), e _ _ (by omega) (by omega)]; exact h4 p hp
theorem MdV.kept {M M' Ab : Mem} (h : MdV M Ab) (e0 : M' 159 23 = M 159 23) (e : ∀ u v, 279 ≤ u → u < 288 → M' u v = M u v) : MdV M' Ab := by
  obtain ⟨h1, h2, h3⟩ := h
  have v9 := (nV_le h1).1
  refine ⟨h1, by rw [e0]; exact h2, fun i hi => ?_⟩
  rw [e _ _ (by omega) (by omega), e _ _ (by omega) (by omega), e _ _ (by omega) (by omega)]
  exact h3 i hi
/-- images' number changes: what stays -/
theorem ac7 {Ac : Mem} {x : Int} : ∀ u v, ¬ (u = 10 ∧ v = 7) → up Ac 10 7 x u v = Ac u v := fun u v h => up_ne h
theorem P_X11_image {J : JT} {Q : QT} (R : R_X11_image J Q) {as : List Vl} {M : Mem} (h : nf G_X11_image as M Q) : (enL as).length ≤ 1 ∧ J 0 (padL 1 (enL as)) [] M := by
  unfold nf G_X11_image at h
  split at h
  · rename_i k
    obtain ⟨rfl, s, hM, hQ⟩ := h
    have h1 := hM.t0 0
    have e0 : up M 159 0 0 159 0 = 0 := up_eq
    have mf := MF.t0 M 0
    refine ⟨Nat.le_of_ble_eq_true rfl, R_X11_image_0 R (an o159 (an o159 ?_))⟩
    generalize up M 159 0 0 = M1 at h1 e0 mf
    obtain ⟨iok, i24, irow⟩ := h1.2.2.2.1
    have ib := iok.1
    have en : ((nI3 s : Nat) : Int) = s.2.1 10 7 := by unfold nI3; omega
    refine br (fun g => R_X11_image_15 R ?_) (fun g => ?_)
    · have g : ¬ M1 159 24 = 3 := g
      have lt : nI3 s < 3 := by omega
      have ea : an_image s = _ := if_neg (show ¬ 3 ≤ s.2.1 10 7 by omega)
      rw [ea] at hQ
      have n24 : (M1 159 24).toNat = nI3 s := by rw [i24]; rfl
      refine an o159 (an o159 (an (ak_of sh288 (by omega) (by omega)) ?_))
      rw [ke_row n24]
      refine an o159 ⟨⟨rfl, by omega⟩, fun M2 hi => an o159 (an o159 (an o159 ?_))⟩
      obtain ⟨-, hpc, hf0, -⟩ := hi
      have hf := hf0 rfl
      have e24 : M2 159 24 = s.2.1 10 7 := (hf _ _ (by omega) (by omega)).trans i24
      show Q (.inl (some (vI (up M2 159 24 (f_add (M2 159 24) 1) 159 24)))) (up M2 159 24 (f_add (M2 159 24) 1))
      have e5 : f_add (M2 159 24) 1 = s.2.1 10 7 + 1 := by rw [e24]; exact w1 (by omega) (by omega) rfl
      rw [up_eq, e5]
      generalize hM3 : up M2 159 24 (s.2.1 10 7 + 1) = M3
      have f3 : ∀ u v, ¬ (u = 159 ∧ (v = 24 ∨ v = 25)) → u ≠ 289 + nI3 s → M3 u v = M1 u v := fun u v a b => by rw [← hM3, up_ne (by omega)]; exact hf u v b (by omega)
      have f4 : ∀ v, M3 (289 + nI3 s) v = M2 (289 + nI3 s) v := fun v => by rw [← hM3, up_ne (by omega)]
      have e3 : M3 159 24 = s.2.1 10 7 + 1 := by rw [← hM3]; exact up_eq
      have nx : nI3 (s.1, up s.2.1 10 7 (s.2.1 10 7 + 1), fun i => if i = nI3 s then s.1 else s.2.2 i) = nI3 s + 1 := by
        show (up s.2.1 10 7 (s.2.1 10 7 + 1) 10 7).toNat = nI3 s + 1
        rw [up_eq]
        omega
      have l9 := (nL_le h1.2.1.1).1
      have v9 := (nV_le h1.2.2.1.1).1
      have tk := h1.2.2.2.2.1
      refine hQ M3 _ (mf.tr (fun u v hu => f3 u v (by omega) (by omega))) ⟨h1.1.kept2 (fun u v a b => f3 u v (by omega) (by omega)), h1.2.1.kept (f3 _ _ (by omega) (by omega)) (fun u v a b => f3 u v (by omega) (by omega)), h1.2.2.1.kept (f3 _ _ (by omega) (by omega)) (fun u v a b => f3 u v (by omega) (by omega)), ⟨⟨?_, fun i hi => ?_⟩, ?_, fun i hi => ?_⟩, ⟨⟨?_, fun i hi => ?_⟩, ?_, ?_, fun i hi => ?_⟩, ⟨?_, ?_⟩, (f3 _ _ (by omega) (by omega)).trans h1.2.2.2.2.2.2.1, by rw [f3 _ _ (by omega) (by omega)]; exact h1.2.2.2.2.2.2.2⟩ ((f3 _ _ (by omega) (by omega)).trans e0) (fun _ => rfl)
      · show 0 ≤ up s.2.1 10 7 (s.2.1 10 7 + 1) 10 7 ∧ up s.2.1 10 7 (s.2.1 10 7 + 1) 10 7 ≤ 3
        rw [up_eq]; omega
      · rw [nx] at hi
        show SameH (if i = nI3 s then s.1 else s.2.2 i) s.1 ∧ LoanOK (if i = nI3 s then s.1 else s.2.2 i) 11 ((if i = nI3 s then s.1 else s.2.2 i) 10 5) ∧ VoteOK (if i = nI3 s then s.1 else s.2.2 i) 15 ((if i = nI3 s then s.1 else s.2.2 i) 10 6)
        by_cases e : i = nI3 s
        · rw [if_pos e]; exact ⟨SameH.rf _, h1.2.1.1, h1.2.2.1.1⟩
        · rw [if_neg e]; exact iok.2 i (by omega)
      · show _ = up s.2.1 10 7 (s.2.1 10 7 + 1) 10 7
        rw [e3, up_eq]
      · rw [nx] at hi
        show M3 (289 + i) 0 = (if i = nI3 s then s.1 else s.2.2 i) 10 5 ∧ M3 (289 + i) 1 = (if i = nI3 s then s.1 else s.2.2 i) 10 6 ∧ (∀ j c, j < ((if i = nI3 s then s.1 else s.2.2 i) 10 5).toNat → c < 4 → M3 (289 + i) (2 + 4 * j + c) = (if i = nI3 s then s.1 else s.2.2 i) (11 + c) j) ∧ ∀ j c, j < ((if i = nI3 s then s.1 else s.2.2 i) 10 6).toNat → c < 3 → M3 (289 + i) (82 + 3 * j + c) = (if i = nI3 s then s.1 else s.2.2 i) (15 + c) j
        by_cases e : i = nI3 s
        · rw [if_pos e, e]
          refine ⟨?_, ?_, fun j c hj hc => ?_, fun j c hj hc => ?_⟩
          · rw [f4, ← hpc 0 (by decide)]; exact (hf _ _ (show (pcs 0).1 ≠ 289 + nI3 s by show 159 ≠ _; omega) (by decide)).trans h1.2.1.2.1
          · rw [f4, ← hpc 1 (by decide)]; exact (hf _ _ (show (pcs 1).1 ≠ 289 + nI3 s by show 159 ≠ _; omega) (by decide)).trans h1.2.2.1.2.1
          · have hj' : j < nL s.1 := hj
            have lr := h1.2.1.2.2 j hj'
            rw [f4, ← hpc _ (by omega), pcs_l (by omega) hc, hf _ _ (by show 256 + j ≠ _; omega) (by show ¬ (256 + j = 159 ∧ c = 25); omega)]
            rcases (show c = 0 ∨ c = 1 ∨ c = 2 ∨ c = 3 by omega) with rfl | rfl | rfl | rfl
            · exact lr.1
            · exact lr.2.1
            · exact lr.2.2.1
            · exact lr.2.2.2
          · have hj' : j < nV s.1 := hj
            have lr := h1.2.2.1.2.2 j hj'
            rw [f4, ← hpc _ (by omega), pcs_v (by omega) hc, hf _ _ (by show 279 + j ≠ _; omega) (by show ¬ (279 + j = 159 ∧ c = 25); omega)]
            rcases (show c = 0 ∨ c = 1 ∨ c = 2 by omega) with rfl | rfl | rfl
            · exact lr.1
            · exact lr.2.1
            · exact lr.2.2
        · rw [if_neg e]
          obtain ⟨k1, k2, k3, k4⟩ := irow i (by omega)
          exact ⟨by rw [f3 _ _ (by omega) (by omega)]; exact k1, by rw [f3 _ _ (by omega) (by omega)]; exact k2, fun j c hj hc => by rw [f3 _ _ (by omega) (by omega)]; exact k3 j c hj hc, fun j c hj hc => by rw [f3 _ _ (by omega) (by omega)]; exact k4 j c hj hc⟩
      · show 0 ≤ up s.2.1 10 7 (s.2.1 10 7 + 1) 10 8 ∧ up s.2.1 10 7 (s.2.1 10 7 + 1) 10 8 ≤ 600
        rw [ac7 _ _ (by omega)]; exact tk.1.1
      · show 0 ≤ up s.2.1 10 7 (s.2.1 10 7 + 1) 18 i ∧ up s.2.1 10 7 (s.2.1 10 7 + 1) 18 i < 256
        rw [ac7 _ _ (by omega)]; exact tk.1.2 i hi
      · show _ = up s.2.1 10 7 (s.2.1 10 7 + 1) 10 8
        rw [ac7 _ _ (by omega), f3 _ _ (by omega) (by omega)]; exact tk.2.1
      · show _ = up s.2.1 10 7 (s.2.1 10 7 + 1) 10 9
        rw [ac7 _ _ (by omega), f3 _ _ (by omega) (by omega)]; exact tk.2.2.1
      · show _ = up s.2.1 10 7 (s.2.1 10 7 + 1) 18 i
        rw [ac7 _ _ (by omega), f3 _ _ (by omega) (by omega)]; exact tk.2.2.2 i hi
      · show _ = up s.2.1 10 7 (s.2.1 10 7 + 1) 10 10
        rw [ac7 _ _ (by omega), f3 _ _ (by omega) (by omega)]; exact h1.2.2.2.2.2.1.1
      · show _ = up s.2.1 10 7 (s.2.1 10 7 + 1) 10 11
        rw [ac7 _ _ (by omega), f3 _ _ (by omega) (by omega)]; exact h1.2.2.2.2.2.1.2
    · have g : M1 159 24 = 3 := Classical.not_not.mp g
      have ea : an_image s = _ := if_pos (show 3 ≤ s.2.1 10 7 by omega)
      rw [ea] at hQ
      exact hQ M1 (-1) mf h1 e0 (fun _ => rfl)
  · exact h.elim
theorem P_X11_restore {J : JT} {Q : QT} (R : R_X11_restore J Q) {as : List Vl} {M : Mem} (h : nf G_X11_restore as M Q) : (enL as).length ≤ 1 ∧ J 0 (padL 1 (enL as)) [] M := by
  unfold nf G_X11_restore at h
  split at h
  · rename_i k
    obtain ⟨rfl, s, hM, hQ⟩ := h
    have h1 := hM.t0 0
    have e0 : up M 159 0 0 159 0 = 0 := up_eq
    have mf := MF.t0 M 0
    refine ⟨Nat.le_of_ble_eq_true rfl, R_X11_restore_0 R (an o159 (an o159 ?_))⟩
    generalize up M 159 0 0 = M1 at h1 e0 mf
    obtain ⟨iok, i24, irow⟩ := h1.2.2.2.1
    have ib := iok.1
    have en : ((nI3 s : Nat) : Int) = s.2.1 10 7 := by unfold nI3; omega
    refine br (fun g => R_X11_restore_14 R ?_) (fun g => ?_)
    · have g : ¬ M1 159 24 = 0 := g
      have ea : an_restore s = _ := if_neg (show ¬ s.2.1 10 7 ≤ 0 by omega)
      rw [ea] at hQ
      obtain ⟨n, hn⟩ : ∃ n, nI3 s = n + 1 := ⟨nI3 s - 1, by omega⟩
      have e5 : f_sub (M1 159 24) 1 = (n : Int) := by rw [i24]; exact w1 (by omega) (by omega) (by omega)
      refine an o159 (an o159 ?_)
      show _ ∧ _ ∧ AK 5 288 (up M1 159 24 (f_sub (M1 159 24) 1) 159 24) ∧ _
      rw [up_eq, e5]
      generalize hM2 : up M1 159 24 (n : Int) = M2
      have f2 : ∀ u v, ¬ (u = 159 ∧ v = 24) → M2 u v = M1 u v := fun u v a => by rw [← hM2, up_ne a]
      have e24 : M2 159 24 = (n : Int) := by rw [← hM2]; exact up_eq
      refine an o159 (an o159 (an (ak_of sh288 (by omega) (by omega)) ?_))
      have er : nI3 s - 1 = n := by omega
      rw [er] at hQ
      rw [ke_row (Int.toNat_natCast n)]
      refine an o159 ⟨⟨rfl, by omega⟩, fun M3 hi => an o159 ?_⟩
      obtain ⟨-, hpc, -, hf1⟩ := hi
      have hf := hf1 (by decide)
      show Q (.inl (some (vI (M3 159 24)))) M3
      have f3 : ∀ u v, ¬ isP u v → ¬ (u = 159 ∧ (v = 24 ∨ v = 25)) → M3 u v = M1 u v := fun u v a b => (hf u v a (by omega)).trans (f2 u v (by omega))
      have e3 : M3 159 24 = s.2.1 10 7 - 1 := by rw [hf _ _ (by unfold isP; omega) (by omega), e24]; omega
      obtain ⟨k1, k2, k3, k4⟩ := irow n (by omega)
      obtain ⟨sh, lok', vok⟩ := iok.2 n (by omega)
      have pj : ∀ j, j < 109 → M3 (pcs j).1 (pcs j).2 = M1 (289 + n) j := fun j hj => by rw [hpc j hj]; exact f3 _ _ (by unfold isP; omega) (by omega)
      have l9 : (s.2.2 n 10 5).toNat ≤ 20 := by have := lok'.1; omega
      have v9 : (s.2.2 n 10 6).toNat ≤ 9 := by have := vok.1; omega
      have tk := h1.2.2.2.2.1
      rw [e3]
      have nx : nI3 (s.2.2 n, up s.2.1 10 7 (s.2.1 10 7 - 1), s.2.2) = n := by
        show (up s.2.1 10 7 (s.2.1 10 7 - 1) 10 7).toNat = n
        rw [up_eq]
        omega
      refine hQ M3 _ (mf.tr (fun u v hu => f3 u v (by unfold isP; omega) (by omega))) ⟨?_, ⟨lok', (pj 0 (by decide)).trans k1, fun i hi => ?_⟩, ⟨vok, (pj 1 (by decide)).trans k2, fun i hi => ?_⟩, ⟨⟨?_, fun i hi => ?_⟩, ?_, fun i hi => ?_⟩, ⟨⟨?_, fun i hi => ?_⟩, ?_, ?_, fun i hi => ?_⟩, ⟨?_, ?_⟩, (f3 _ _ (by unfold isP; omega) (by omega)).trans h1.2.2.2.2.2.2.1, by rw [f3 _ _ (by unfold isP; omega) (by omega)]; exact h1.2.2.2.2.2.2.2⟩ ((f3 _ _ (by unfold isP; omega) (by omega)).trans e0) (fun _ => rfl)
      · obtain ⟨ho, ⟨a0, a1, a2, a3, a4⟩, b1, b2, b3, b4⟩ := h1.1
        have p1 := (nP_le ho).1
        have t1 := (nT_le ho).1
        have m1 := (nM_le ho).1
        refine MdP.same (A := s.1) ⟨ho, ?_, fun p hp => ?_, fun p hp => ?_, fun p hp => ?_, fun p hp => ?_⟩ sh
        · refine ⟨?_, ?_, ?_, ?_, ?_⟩ <;> rw [f3 _ _ (by unfold isP; omega) (by omega)] <;> assumption
        · rw [f3 _ _ (by unfold isP; omega) (by omega), f3 _ _ (by unfold isP; omega) (by omega)]; exact b1 p hp
        · rw [f3 _ _ (by unfold isP; omega) (by omega), f3 _ _ (by unfold isP; omega) (by omega), f3 _ _ (by unfold isP; omega) (by omega), f3 _ _ (by unfold isP; omega) (by omega)]; exact b2 p hp
        · rw [f3 _ _ (by unfold isP; omega) (by omega)]; exact b3 p hp
        · rw [f3 _ _ (by unfold isP; omega) (by omega), f3 _ _ (by unfold isP; omega) (by omega), f3 _ _ (by unfold isP; omega) (by omega)]; exact b4 p hp
      · have hi : i < (s.2.2 n 10 5).toNat := hi
        have g : ∀ c, c < 4 → M3 (256 + i) c = s.2.2 n (11 + c) i := fun c hc => by
          have := pj (2 + 4 * i + c) (by omega)
          rw [pcs_l (by omega) hc] at this
          exact this.trans (k3 i c hi hc)
        exact ⟨g 0 (by decide), g 1 (by decide), g 2 (by decide), g 3 (by decide)⟩
      · have hi : i < (s.2.2 n 10 6).toNat := hi
        have g : ∀ c, c < 3 → M3 (279 + i) c = s.2.2 n (15 + c) i := fun c hc => by
          have := pj (82 + 3 * i + c) (by omega)
          rw [pcs_v (by omega) hc] at this
          exact this.trans (k4 i c hi hc)
        exact ⟨g 0 (by decide), g 1 (by decide), g 2 (by decide)⟩
      · show 0 ≤ up s.2.1 10 7 (s.2.1 10 7 - 1) 10 7 ∧ up s.2.1 10 7 (s.2.1 10 7 - 1) 10 7 ≤ 3
        rw [up_eq]; omega
      · rw [nx] at hi
        obtain ⟨sh2, l2, v2⟩ := iok.2 i (by omega)
        exact ⟨sh2.tr ⟨fun u v q => (sh.1 u v q).symm, fun v q => (sh.2 v q).symm⟩, l2, v2⟩
      · show _ = up s.2.1 10 7 (s.2.1 10 7 - 1) 10 7
        rw [e3, up_eq]
      · rw [nx] at hi
        obtain ⟨q1, q2, q3, q4⟩ := irow i (by omega)
        have fr : ∀ v, M3 (289 + i) v = M1 (289 + i) v := fun v => f3 _ _ (by unfold isP; omega) (by omega)
        exact ⟨by rw [fr]; exact q1, by rw [fr]; exact q2, fun j c hj hc => by rw [fr]; exact q3 j c hj hc, fun j c hj hc => by rw [fr]; exact q4 j c hj hc⟩
      · show 0 ≤ up s.2.1 10 7 (s.2.1 10 7 - 1) 10 8 ∧ up s.2.1 10 7 (s.2.1 10 7 - 1) 10 8 ≤ 600
        rw [ac7 _ _ (by omega)]; exact tk.1.1
      · show 0 ≤ up s.2.1 10 7 (s.2.1 10 7 - 1) 18 i ∧ up s.2.1 10 7 (s.2.1 10 7 - 1) 18 i < 256
        rw [ac7 _ _ (by omega)]; exact tk.1.2 i hi
      · show _ = up s.2.1 10 7 (s.2.1 10 7 - 1) 10 8
        rw [ac7 _ _ (by omega), f3 _ _ (by unfold isP; omega) (by omega)]; exact tk.2.1
      · show _ = up s.2.1 10 7 (s.2.1 10 7 - 1) 10 9
        rw [ac7 _ _ (by omega), f3 _ _ (by unfold isP; omega) (by omega)]; exact tk.2.2.1
      · show _ = up s.2.1 10 7 (s.2.1 10 7 - 1) 18 i
        rw [ac7 _ _ (by omega), f3 _ _ (by unfold isP; omega) (by omega)]; exact tk.2.2.2 i hi
      · show _ = up s.2.1 10 7 (s.2.1 10 7 - 1) 10 10
        rw [ac7 _ _ (by omega), f3 _ _ (by unfold isP; omega) (by omega)]; exact h1.2.2.2.2.2.1.1
      · show _ = up s.2.1 10 7 (s.2.1 10 7 - 1) 10 11
        rw [ac7 _ _ (by omega), f3 _ _ (by unfold isP; omega) (by omega)]; exact h1.2.2.2.2.2.1.2
    · have g : M1 159 24 = 0 := Classical.not_not.mp g
      have ea : an_restore s = _ := if_pos (show s.2.1 10 7 ≤ 0 by omega)
      rw [ea] at hQ
      exact hQ M1 (-1) mf h1 e0 (fun _ => rfl)
  · exact h.elim
theorem shr_b : ∀ i : Nat, i < 20 → f_sub 24 (f_mul 8 (w32 (Int.tmod ((i : Nat) : Int) 4))) = ((24 - 8 * (i % 4) : Nat) : Int) := by decide
theorem byte_ok {v : Int} (h : okI v) {n : Nat} (hn : n ≤ 24) : andI (shrI v (n : Int)) 255 = v / 2 ^ n % 256 := by
  rw [shrI_n h (by omega), and255]
  have hp : (0 : Int) < 2 ^ n := Int.pow_pos (by decide)
  have h1 : v / 2 ^ n ≤ 2147483647 := by
    have := Int.ediv_le_ediv hp (show v ≤ 2147483647 by unfold okI at h; omega)
    have h2 : (2147483647 : Int) / 2 ^ n ≤ 2147483647 := Int.ediv_le_self _ (by decide)
    omega
  have h3 : -2147483648 ≤ v / 2 ^ n := by
    by_cases q : 0 ≤ v
    · have := Int.ediv_nonneg q (Int.le_of_lt hp); omega
    · have h4 := Int.ediv_le_ediv hp (show -2147483648 ≤ v by unfold okI at h; omega)
      have h5 : (-2147483648 : Int) ≤ -2147483648 / 2 ^ n := by
        rw [Int.le_ediv_iff_mul_le hp]
        have h6 : (1 : Int) ≤ 2 ^ n := by omega
        have h7 := Int.mul_le_mul_of_nonneg_left h6 (show (0 : Int) ≤ 2147483648 by decide)
        rw [Int.mul_one] at h7
        have h8 : (-2147483648 : Int) * 2 ^ n = -(2147483648 * 2 ^ n) := by rw [Int.neg_mul]
        omega
      omega
  exact ⟨h3, by omega⟩
theorem sh160 : SH 160 = (1, 600, 0, 0) := rfl
theorem fdA_c {Ac : Mem} {a b c d e : Int} : ∀ u v, ¬ (u = 18) → ¬ (u = 10 ∧ v = 8) → fdA Ac a b c d e u v = Ac u v := fun u v h1 h2 => by unfold fdA; rw [if_neg h1, if_neg h2]
theorem P_X11_feed {J : JT} {Q : QT} (R : R_X11_feed J Q) {as : List Vl} {M : Mem} (h : nf G_X11_feed as M Q) : (enL as).length ≤ 8 ∧ J 0 (padL 8 (enL as)) [] M := by
  unfold nf G_X11_feed at h
  split at h
  · rename_i k a b c d e
    obtain ⟨⟨rfl, oa, ob, oc, od, oe⟩, s, hM, hQ⟩ := h
    have h1 := hM.t0 0
    have e0 : up M 159 0 0 159 0 = 0 := up_eq
    have mf := MF.t0 M 0
    refine ⟨Nat.le_of_ble_eq_true rfl, R_X11_feed_0 R (an o159 (an o159 ?_))⟩
    generalize up M 159 0 0 = M1 at h1 e0 mf
    obtain ⟨⟨tb, tB⟩, t1, t3, t4⟩ := h1.2.2.2.2.1
    have e20 : f_add (M1 159 1) 20 = s.2.1 10 8 + 20 := by rw [t1]; exact w1 (by omega) (by omega) rfl
    show (f_add (M1 159 1) 20 ≤ 600 → _) ∧ (¬ f_add (M1 159 1) 20 ≤ 600 → _)
    rw [e20]
    refine br (fun g => R_X11_feed_20 R ?_) (fun g => ?_)
    · have ea : an_feed a b c d e s = _ := if_neg (show ¬ 600 < s.2.1 10 8 + 20 by omega)
      rw [ea] at hQ
      obtain ⟨T, hT⟩ : ∃ T : Nat, s.2.1 10 8 = (T : Int) := ⟨(s.2.1 10 8).toNat, by omega⟩
      have hTn : (s.2.1 10 8).toNat = T := by omega
      have key : ∀ i : Nat, i ≤ 20 → ∀ (x : Int) (M2 : Mem) (z7 : Option Vl), x = (i : Int) → M2 159 1 = ((T + i : Nat) : Int) → (∀ u v, ¬ (u = 159 ∧ v = 1) → ¬ (u = 160 ∧ T ≤ v ∧ v < T + 20) → M2 u v = M1 u v) → (∀ j, j < i → M2 160 (T + j) = byt (sel5 a b c d e j) (j % 4)) → J 23 [some (vR 159), some (vI a), some (vI b), some (vI c), some (vI d), some (vI e), some (vI x), z7] [] M2 := by
        refine dn ?_ ?_
        · intro x M2 z7 hx h21 f2 hb
          refine R_X11_feed_23 R (bt (show (20 : Int) ≤ x by omega) (R_X11_feed_120 R (an o159 ?_)))
          have k2 : Mdl M2 (s.1, fdA s.2.1 a b c d e, s.2.2) := by
            obtain ⟨g1, g2, g3, ⟨i1, i2, i3⟩, -, ⟨r1, r2⟩, w1', w2⟩ := h1
            refine ⟨g1.kept2 (fun u v q1 q2 => ?_), g2.kept (f2 _ _ (by omega) (by omega)) (fun u v q1 q2 => f2 u v (by omega) (by omega)), g3.kept (f2 _ _ (by omega) (by omega)) (fun u v q1 q2 => f2 u v (by omega) (by omega)), ⟨⟨?_, ?_⟩, ?_, ?_⟩, ⟨⟨?_, fun i hi => ?_⟩, ?_, ?_, fun i hi => ?_⟩, ⟨?_, ?_⟩, (f2 _ _ (by omega) (by omega)).trans w1', by rw [f2 _ _ (by omega) (by omega)]; exact w2⟩
            · exact f2 u v (by omega) (by omega)
            · show 0 ≤ fdA s.2.1 a b c d e 10 7 ∧ fdA s.2.1 a b c d e 10 7 ≤ 3
              rw [fdA_c _ _ (by omega) (by omega)]; exact i1.1
            · intro i hi
              have hi : i < (fdA s.2.1 a b c d e 10 7).toNat := hi
              rw [fdA_c _ _ (by omega) (by omega)] at hi
              exact i1.2 i hi
            · show _ = fdA s.2.1 a b c d e 10 7
              rw [fdA_c _ _ (by omega) (by omega), f2 _ _ (by omega) (by omega)]; exact i2
            · intro i hi
              have hi : i < (fdA s.2.1 a b c d e 10 7).toNat := hi
              rw [fdA_c _ _ (by omega) (by omega)] at hi
              obtain ⟨q1, q2, q3, q4⟩ := i3 i hi
              have fr : ∀ v, M2 (289 + i) v = M1 (289 + i) v := fun v => f2 _ _ (by omega) (by omega)
              exact ⟨by rw [fr]; exact q1, by rw [fr]; exact q2, fun j c hj hc => by rw [fr]; exact q3 j c hj hc, fun j c hj hc => by rw [fr]; exact q4 j c hj hc⟩
            · show 0 ≤ s.2.1 10 8 + 20 ∧ s.2.1 10 8 + 20 ≤ 600
              omega
            · show 0 ≤ (if (s.2.1 10 8).toNat ≤ i ∧ i < (s.2.1 10 8).toNat + 20 then byt _ _ else s.2.1 18 i) ∧ (if (s.2.1 10 8).toNat ≤ i ∧ i < (s.2.1 10 8).toNat + 20 then byt _ _ else s.2.1 18 i) < 256
              split
              · unfold byt; omega
              · exact tB i hi
            · show M2 159 1 = s.2.1 10 8 + 20
              omega
            · show _ = fdA s.2.1 a b c d e 10 9
              rw [fdA_c _ _ (by omega) (by omega), f2 _ _ (by omega) (by omega)]; exact t3
            · show M2 160 i = (if (s.2.1 10 8).toNat ≤ i ∧ i < (s.2.1 10 8).toNat + 20 then byt (sel5 a b c d e (i - (s.2.1 10 8).toNat)) ((i - (s.2.1 10 8).toNat) % 4) else s.2.1 18 i)
              rw [hTn]
              by_cases q : T ≤ i ∧ i < T + 20
              · rw [if_pos q]
                have := hb (i - T) (by omega)
                rw [show T + (i - T) = i by omega] at this
                exact this
              · rw [if_neg q, f2 _ _ (by omega) (by omega)]; exact t4 i hi
            · show _ = fdA s.2.1 a b c d e 10 10
              rw [fdA_c _ _ (by omega) (by omega), f2 _ _ (by omega) (by omega)]; exact r1
            · show _ = fdA s.2.1 a b c d e 10 11
              rw [fdA_c _ _ (by omega) (by omega), f2 _ _ (by omega) (by omega)]; exact r2
          exact hQ M2 _ (mf.tr (fun u v hu => f2 u v (by omega) (by omega))) k2 ((f2 _ _ (by omega) (by omega)).trans e0) (fun _ => by show M2 159 1 = s.2.1 10 8 + 20; omega)
        · intro i hi ih x M2 z7 hx h21 f2 hb
          have at76 : ∀ (v : Int) (z7 : Option Vl), okI v → v = sel5 a b c d e i → J 76 [some (vR 159), some (vI a), some (vI b), some (vI c), some (vI d), some (vI e), some (vI x), z7] [vI v] M2 := by
            intro v z7 ov hv
            have es := shr_b i hi
            rw [← hx] at es
            have eb := byte_ok ov (n := 24 - 8 * (i % 4)) (by omega)
            rw [← es] at eb
            have ei : f_add (M2 159 1) 1 = ((T + (i + 1) : Nat) : Int) := by rw [h21]; exact w1 (by omega) (by omega) (by omega)
            refine R_X11_feed_76 R (an o159 (an o159 (an (by decide) (an ?_ (an o159 (an o159 ?_))))))
            · show AK 1 160 (M2 159 1)
              rw [h21]
              exact ak_of sh160 (by omega) (by omega)
            · rw [eb]
              show J 23 _ [] (up (up M2 160 (M2 159 1).toNat (v / 2 ^ (24 - 8 * (i % 4)) % 256)) 159 1 (f_add (up M2 160 (M2 159 1).toNat (v / 2 ^ (24 - 8 * (i % 4)) % 256) 159 1) 1))
              rw [up_ne (M := M2) (x := 159) (y := 1) (by omega), ei, show (M2 159 1).toNat = T + i by omega]
              clear es eb ei
              refine ih _ _ _ (wn hx (by omega)) up_eq (fun u w q1 q2 => ?_) (fun j hj => ?_)
              · rw [up_ne q1, up_ne (by omega)]; exact f2 u w q1 q2
              · rw [up_ne (by omega)]
                by_cases ej : j = i
                · subst ej
                  rw [up_eq, hv]
                  rfl
                · rw [up_ne (by omega)]; exact hb j (by omega)
          have s4 : sel5 a b c d e i = if i < 4 then a else if i < 8 then b else if i < 12 then c else if i < 16 then d else e := rfl
          refine R_X11_feed_23 R (bf (show ¬ (20 : Int) ≤ x by omega) (br (fun g1 => R_X11_feed_40 R (br (fun g2 => R_X11_feed_51 R (br (fun g3 => R_X11_feed_62 R (br (fun g4 => R_X11_feed_74 R (at76 e _ oe ?_)) (fun g4 => at76 d _ od ?_))) (fun g3 => at76 c _ oc ?_))) (fun g2 => at76 b _ ob ?_))) (fun g1 => at76 a _ oa ?_)))
          · have g4 : (16 : Int) ≤ x := g4
            rw [s4, if_neg (by omega), if_neg (by omega), if_neg (by omega), if_neg (by omega)]
          · have g3 : (12 : Int) ≤ x := g3
            have g4 : ¬ (16 : Int) ≤ x := g4
            rw [s4, if_neg (by omega), if_neg (by omega), if_neg (by omega), if_pos (by omega)]
          · have g2 : (8 : Int) ≤ x := g2
            have g3 : ¬ (12 : Int) ≤ x := g3
            rw [s4, if_neg (by omega), if_neg (by omega), if_pos (by omega)]
          · have g1 : (4 : Int) ≤ x := g1
            have g2 : ¬ (8 : Int) ≤ x := g2
            rw [s4, if_neg (by omega), if_pos (by omega)]
          · have g1 : ¬ (4 : Int) ≤ x := g1
            rw [s4, if_pos (by omega)]
      exact key 0 (Nat.zero_le _) _ M1 _ rfl (by omega) (fun _ _ _ _ => rfl) (fun j hj => absurd hj (Nat.not_lt_zero j))
    · have ea : an_feed a b c d e s = _ := if_pos (show 600 < s.2.1 10 8 + 20 by omega)
      rw [ea] at hQ
      exact hQ M1 (-1) mf h1 e0 (fun _ => rfl)

  · exact h.elim