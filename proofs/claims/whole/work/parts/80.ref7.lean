
theorem hN_hB (Ab : Mem) (k : Nat) : hN Ab k = 0 ↔ hB Ab k = -1 := by
  constructor
  · intro h
    rcases hB_sp Ab k with q | ⟨f, q1, q2, q3, q4⟩
    · exact q.1
    · have := cnt_0 (c := gdH Ab) h f q2
      rw [q3] at this
      exact absurd this (by decide)
  · intro h
    by_cases q : hN Ab k = 0
    · exact q
    · obtain ⟨j, hj, hg⟩ := cnt_pos (c := gdH Ab) q
      rcases hB_sp Ab k with z | ⟨f, q1, q2, q3, q4⟩
      · rw [z.2 j hj] at hg; exact absurd hg (by decide)
      · omega
theorem hB_bd (Ab : Mem) (k : Nat) : hB Ab k = -1 ∨ (0 ≤ hB Ab k ∧ hB Ab k < (k : Int)) := by
  rcases hB_sp Ab k with q | ⟨f, q1, q2, q3, q4⟩
  · exact Or.inl q.1
  · right; omega
theorem nV_le {Ab : Mem} (h : VoteOK Ab 15 (Ab 10 6)) : nV Ab ≤ 9 ∧ ((nV Ab : Nat) : Int) = Ab 10 6 := by have := h.1; unfold nV; omega
theorem sh1 (n : Nat) (h : n ≤ 14) : f_sub (shlI 1 (n : Int)) 1 = ((2 ^ n : Nat) : Int) - 1 := by
  rw [shl1 n (by omega)]
  have := p14 h
  have h0 : 0 < 2 ^ n := Nat.pow_pos (by decide)
  exact w1 (by omega) (by omega) rfl
def G_X11_vote : FN := fun as M Q => match as with
  | [.inr (.inl k), .inl f, .inl g, .inl more] => k = 159 ∧ mS cd1 (an_vote f g more) M Q
  | _ => False
def b_X11_vote_0 : List AT := tx_al 0 :: tx_ic 0 :: tx_pi 11 0 :: tx_ic 1 :: tx_al 0 :: tx_gr 11 4 :: tx_ic 0 :: tx_ia :: tx_bin shlI :: tx_ic 1 :: tx_bin f_sub :: tx_is 4 :: tx_al 0 :: tx_il 1 :: tx_ic 0 :: tx_il 4 :: tx_call (nf G_X11_in) 3 :: tx_ifz r_eq 57 :: tx_il 2 :: tx_ic 0 :: tx_il 4 :: tx_call (nf G_X11_in) 3 :: tx_ifz r_eq 57 :: tx_il 1 :: tx_il 2 :: tx_bin andI :: tx_ifz r_ne 57 :: tx_il 3 :: tx_ic (-9999) :: tx_ic 9999 :: tx_call (nf G_X11_in) 3 :: tx_ifz r_ne 61 :: tx_fall 57 :: []
def b_X11_vote_57 : List AT := [tx_ic 1, tx_fall 62]
def b_X11_vote_61 : List AT := [tx_ic 0, tx_fall 62]
def b_X11_vote_62 : List AT := [tx_ic 1, tx_ic 1, tx_callv 11 (nf G_X11_bad) 3, tx_ifz r_eq 72, tx_ic 0, tx_ri]
def b_X11_vote_72 : List AT := [tx_al 0, tx_gi 11 23, tx_ic 9, tx_cmp r_ne 83, tx_ic (-1), tx_ri]
def b_X11_vote_83 : List AT := tx_al 0 :: tx_gr 11 119 :: tx_al 0 :: tx_gi 11 23 :: tx_aa 5 :: tx_ic 0 :: tx_il 1 :: tx_iax :: tx_al 0 :: tx_gr 11 119 :: tx_al 0 :: tx_gi 11 23 :: tx_aa 5 :: tx_ic 1 :: tx_il 2 :: tx_iax :: tx_al 0 :: tx_gr 11 119 :: tx_al 0 :: tx_gi 11 23 :: tx_aa 5 :: tx_ic 2 :: tx_il 3 :: tx_iax :: tx_al 0 :: tx_dup :: tx_gi 11 23 :: tx_ic 1 :: tx_bin f_add :: tx_pi 11 23 :: tx_al 0 :: tx_gi 11 23 :: tx_ri :: []
def R_X11_vote (J : JT) (Q : QT) : Prop := (∀ ls st M, wpl J Q b_X11_vote_0 ls st M → J 0 ls st M) ∧ (∀ ls st M, wpl J Q b_X11_vote_57 ls st M → J 57 ls st M) ∧ (∀ ls st M, wpl J Q b_X11_vote_61 ls st M → J 61 ls st M) ∧ (∀ ls st M, wpl J Q b_X11_vote_62 ls st M → J 62 ls st M) ∧ (∀ ls st M, wpl J Q b_X11_vote_72 ls st M → J 72 ls st M) ∧ (∀ ls st M, wpl J Q b_X11_vote_83 ls st M → J 83 ls st M)
theorem R_X11_vote_0 {J : JT} {Q : QT} (R : R_X11_vote J Q) {ls : Ls} {st : St} {M : Mem} (h : wpl J Q b_X11_vote_0 ls st M) : J 0 ls st M := R.1 ls st M h
theorem R_X11_vote_57 {J : JT} {Q : QT} (R : R_X11_vote J Q) {ls : Ls} {st : St} {M : Mem} (h : wpl J Q b_X11_vote_57 ls st M) : J 57 ls st M := R.2.1 ls st M h
theorem R_X11_vote_61 {J : JT} {Q : QT} (R : R_X11_vote J Q) {ls : Ls} {st : St} {M : Mem} (h : wpl J Q b_X11_vote_61 ls st M) : J 61 ls st M := R.2.2.1 ls st M h
theorem R_X11_vote_62 {J : JT} {Q : QT} (R : R_X11_vote J Q) {ls : Ls} {st : St} {M : Mem} (h : wpl J Q b_X11_vote_62 ls st M) : J 62 ls st M := R.2.2.2.1 ls st M h
theorem R_X11_vote_72 {J : JT} {Q : QT} (R : R_X11_vote J Q) {ls : Ls} {st : St} {M : Mem} (h : wpl J Q b_X11_vote_72 ls st M) : J 72 ls st M := R.2.2.2.2.1 ls st M h
theorem R_X11_vote_83 {J : JT} {Q : QT} (R : R_X11_vote J Q) {ls : Ls} {st : St} {M : Mem} (h : wpl J Q b_X11_vote_83 ls st M) : J 83 ls st M := R.2.2.2.2.2 ls st M h
theorem voA_ok {Ab : Mem} {f g more : Int} (h : VoteOK Ab 15 (Ab 10 6)) (h9 : Ab 10 6 ≠ 9) (hc : voC Ab f g more) : VoteOK (voA Ab f g more) 15 (voA Ab f g more 10 6) ∧ SameH (voA Ab f g more) Ab ∧ voA Ab f g more 10 6 = Ab 10 6 + 1 ∧ nV (voA Ab f g more) = nV Ab + 1 ∧ (∀ v, v < nV Ab → voA Ab f g more 15 v = Ab 15 v ∧ voA Ab f g more 16 v = Ab 16 v ∧ voA Ab f g more 17 v = Ab 17 v) ∧ (voA Ab f g more 15 (nV Ab) = f ∧ voA Ab f g more 16 (nV Ab) = g ∧ voA Ab f g more 17 (nV Ab) = more) ∧ voA Ab f g more 10 5 = Ab 10 5 ∧ (∀ u v, 11 ≤ u → u ≤ 14 → voA Ab f g more u v = Ab u v) := by
  obtain ⟨v9, e6⟩ := nV_le h
  have b := h.1
  have s1 : SameH (voA Ab f g more) Ab := ⟨fun u v q => by unfold voA; rw [up_ne (by omega), up_ne (by omega), up_ne (by omega), up_ne (by omega)], fun v q => by unfold voA; rw [up_ne (by omega), up_ne (by omega), up_ne (by omega), up_ne (by omega)]⟩
  have c6 : voA Ab f g more 10 6 = Ab 10 6 + 1 := up_eq
  have cn : nV (voA Ab f g more) = nV Ab + 1 := by unfold nV; rw [c6]; omega
  have old : ∀ v, v < nV Ab → voA Ab f g more 15 v = Ab 15 v ∧ voA Ab f g more 16 v = Ab 16 v ∧ voA Ab f g more 17 v = Ab 17 v := by
    intro v hv
    unfold voA
    refine ⟨?_, ?_, ?_⟩ <;> rw [up_ne (by omega), up_ne (by omega), up_ne (by omega), up_ne (by omega)]
  have new : voA Ab f g more 15 (nV Ab) = f ∧ voA Ab f g more 16 (nV Ab) = g ∧ voA Ab f g more 17 (nV Ab) = more := by
    unfold voA
    refine ⟨?_, ?_, ?_⟩
    · rw [up_ne (by omega), up_ne (by omega), up_ne (by omega), up_eq]
    · rw [up_ne (by omega), up_ne (by omega), up_eq]
    · rw [up_ne (by omega), up_eq]
  refine ⟨⟨by rw [c6]; omega, fun i hi => ?_⟩, s1, c6, cn, old, new, by unfold voA; rw [up_ne (by omega), up_ne (by omega), up_ne (by omega), up_ne (by omega)], fun u v a b => by unfold voA; rw [up_ne (by omega), up_ne (by omega), up_ne (by omega), up_ne (by omega)]⟩
  have hi' : i < nV Ab + 1 := by rw [← cn]; exact hi
  rw [s1.n.1]
  have e2 : ((2 ^ nP Ab : Nat) : Int) = (2 : Int) ^ nP Ab := by simp
  by_cases e : i = nV Ab
  · subst e
    show (0 ≤ voA Ab f g more 15 _ ∧ voA Ab f g more 15 _ < _) ∧ (0 ≤ voA Ab f g more 16 _ ∧ voA Ab f g more 16 _ < _) ∧ (-9999 ≤ voA Ab f g more 17 _ ∧ voA Ab f g more 17 _ ≤ 9999)
    rw [new.1, new.2.1, new.2.2, ← e2]
    obtain ⟨⟨c1, c2⟩, c3, c4⟩ := hc
    unfold allB at c1 c2
    omega
  · obtain ⟨o1, o2, o3⟩ := old i (by omega)
    have := h.2 i (show i < nV Ab by omega)
    show (0 ≤ voA Ab f g more 15 _ ∧ voA Ab f g more 15 _ < _) ∧ (0 ≤ voA Ab f g more 16 _ ∧ voA Ab f g more 16 _ < _) ∧ (-9999 ≤ voA Ab f g more 17 _ ∧ voA Ab f g more 17 _ ≤ 9999)
    rw [o1, o2, o3]
    exact this
theorem P_X11_vote {J : JT} {Q : QT} (R : R_X11_vote J Q) {as : List Vl} {M : Mem} (h : nf G_X11_vote as M Q) : (enL as).length ≤ 5 ∧ J 0 (padL 5 (enL as)) [] M := by
  unfold nf G_X11_vote at h
  split at h
  · rename_i k f g more
    obtain ⟨rfl, s, hM, hQ⟩ := h
    have h1 := hM.t0 0
    have e0 : up M 159 0 0 159 0 = 0 := up_eq
    have mf : MF M (up M 159 0 0) := MF.t0 M 0
    have no2 : ¬ voC s.1 f g more → an_vote f g more s = nay s 2 := fun c => if_pos (fun z => c (tf_iff.mp z))
    obtain ⟨p1, p2⟩ := nP_le h1.1.1
    have eall : f_sub (shlI 1 (s.1 10 1)) 1 = allB s.1 := by
      rw [← p2]
      exact sh1 _ (by omega)
    have body : voC s.1 f g more → J 72 [some (vR 159), some (vI f), some (vI g), some (vI more), some (vI (f_sub (shlI 1 (s.1 10 1)) 1))] [] (up M 159 0 0) := by
      intro c1
      have ea : an_vote f g more s = _ := if_neg (fun z => z (tf_iff.mpr c1))
      rw [ea] at hQ
      generalize up M 159 0 0 = M1 at h1 e0 mf
      obtain ⟨v1, v2, v3⟩ := h1.2.2.1
      obtain ⟨v9, e6⟩ := nV_le v1
      refine R_X11_vote_72 R (an o159 (br (fun z => R_X11_vote_83 R ?_) (fun z => ?_)))
      · have z : ¬ M1 159 23 = 9 := z
        have z9 : ¬ s.1 10 6 = 9 := by rw [← v2]; exact z
        rw [if_neg z9] at hQ
        obtain ⟨w1', w2', w3, w4, w5, w6, w7, w8⟩ := voA_ok v1 z9 c1
        generalize voA s.1 f g more = B at hQ w1' w2' w3 w4 w5 w6 w7 w8
        have lt : nV s.1 < 9 := by have := v1.1; omega
        have an9 : AK 5 278 (M1 159 23) := ak_of sh278 (by omega) (by omega)
        have rn : ∀ x : Int, x = s.1 10 6 → (SH (159 + 119)).2.2.1 + (SH (159 + 119)).2.2.2 * x.toNat = 279 + nV s.1 := fun x hx => vo_row (by rw [hx]; rfl)
        have r3 : SH (279 + nV s.1) = (1, 3, 0, 0) := sh_vo _ lt
        refine an o159 (an o159 (an an9 ?_))
        show AK 1 ((SH (159 + 119)).2.2.1 + (SH (159 + 119)).2.2.2 * (M1 159 23).toNat) 0 ∧ _
        rw [rn _ v2]
        refine an (ak_of r3 (by decide) (by decide)) (an o159 (an o159 ?_))
        generalize hM2 : up M1 (279 + nV s.1) (Int.toNat 0) f = M2
        have f2 : ∀ u v, ¬ (u = 279 + nV s.1 ∧ v = 0) → M2 u v = M1 u v := fun u v hu => by rw [← hM2]; exact up_ne hu
        have e23 : M2 159 23 = M1 159 23 := f2 _ _ (by omega)
        refine an (show AK 5 278 (M2 159 23) by rw [e23]; exact an9) ?_
        show AK 1 ((SH (159 + 119)).2.2.1 + (SH (159 + 119)).2.2.2 * (M2 159 23).toNat) 1 ∧ _
        rw [rn _ (e23.trans v2)]
        refine an (ak_of r3 (by decide) (by decide)) (an o159 (an o159 ?_))
        generalize hM3 : up M2 (279 + nV s.1) (Int.toNat 1) g = M3
        have f3 : ∀ u v, ¬ (u = 279 + nV s.1 ∧ v = 1) → M3 u v = M2 u v := fun u v hu => by rw [← hM3]; exact up_ne hu
        have e23' : M3 159 23 = M1 159 23 := (f3 _ _ (by omega)).trans e23
        refine an (show AK 5 278 (M3 159 23) by rw [e23']; exact an9) ?_
        show AK 1 ((SH (159 + 119)).2.2.1 + (SH (159 + 119)).2.2.2 * (M3 159 23).toNat) 2 ∧ _
        rw [rn _ (e23'.trans v2)]
        refine an (ak_of r3 (by decide) (by decide)) (an o159 (an o159 (an o159 ?_)))
        generalize hM4 : up M3 (279 + nV s.1) (Int.toNat 2) more = M4
        have f4 : ∀ u v, ¬ (u = 279 + nV s.1 ∧ v = 2) → M4 u v = M3 u v := fun u v hu => by rw [← hM4]; exact up_ne hu
        have e23'' : M4 159 23 = s.1 10 6 := ((f4 _ _ (by omega)).trans e23').trans v2
        show Q _ (up M4 159 23 (f_add (M4 159 23) 1))
        have e5 : f_add (M4 159 23) 1 = s.1 10 6 + 1 := by rw [e23'']; exact w1 (by omega) (by omega) rfl
        show Q (.inl (some (vI (up M4 159 23 (f_add (M4 159 23) 1) 159 23)))) _
        rw [up_eq, e5]
        have fr : ∀ u v, ¬ (u = 279 + nV s.1) → ¬ (u = 159 ∧ v = 23) → up M4 159 23 (s.1 10 6 + 1) u v = M1 u v := fun u v a b => by rw [up_ne (by omega), f4 u v (by omega), f3 u v (by omega), f2 u v (by omega)]
        refine hQ _ _ (mf.tr (fun u v hu => fr u v (by omega) (by omega))) (h1.ab w2' ?_ ?_ (fun u v a b c d => fr u v (by omega) (by omega)) (by rw [fr _ _ (by omega) (by omega)]; exact h1.2.2.2.2.2.2.2)) ((fr _ _ (by omega) (by omega)).trans e0) (fun _ => rfl)
        · exact (h1.2.1.kept (fr _ _ (by omega) (by omega)) (fun u v a b => fr u v (by omega) (by omega))).same w2' w7 w8
        · refine ⟨w1', by rw [w3]; exact up_eq, fun v hv => ?_⟩
          rw [w4] at hv
          by_cases e : v = nV s.1
          · subst e
            rw [w6.1, w6.2.1, w6.2.2, up_ne (by omega), up_ne (by omega), up_ne (by omega)]
            refine ⟨?_, ?_, ?_⟩
            · rw [f4 _ _ (by omega), f3 _ _ (by omega), ← hM2]; exact up_eq
            · rw [f4 _ _ (by omega), ← hM3]; exact up_eq
            · rw [← hM4]; exact up_eq
          · obtain ⟨o1, o2, o3⟩ := w5 v (by omega)
            rw [o1, o2, o3, fr _ _ (by omega) (by omega), fr _ _ (by omega) (by omega), fr _ _ (by omega) (by omega)]
            exact v3 v (by omega)
      · have z : M1 159 23 = 9 := Classical.not_not.mp z
        rw [if_pos (v2.symm.trans z)] at hQ
        exact hQ M1 (-1) mf h1 e0 (fun _ => rfl)
    have atB : ∀ b : Int, (b = 0 ∧ voC s.1 f g more) ∨ (b = 1 ∧ ¬ voC s.1 f g more) → J 62 [some (vR 159), some (vI f), some (vI g), some (vI more), some (vI (f_sub (shlI 1 (s.1 10 1)) 1))] [vI b, vR 159] (up M 159 0 0) := by
      intro b hb
      rcases hb with ⟨rfl, c2⟩ | ⟨rfl, c2⟩
      · exact R_X11_vote_62 R (an o159 ⟨⟨rfl, by decide, by decide, e0⟩, fun z => absurd rfl z, fun _ => bt rfl (body c2)⟩)
      · exact R_X11_vote_62 R (an o159 ⟨⟨rfl, by decide, by decide, e0⟩, fun _ => bf (by decide) (m_no (cd := cd1) (Q := fun r M' => Q (.inl r) M') hM 2 1 (by decide) rfl (no2 c2) 0 hQ), fun z => absurd z (by decide)⟩)
    have bad : ¬ voC s.1 f g more → J 57 [some (vR 159), some (vI f), some (vI g), some (vI more), some (vI (f_sub (shlI 1 (s.1 10 1)) 1))] [vR 159] (up M 159 0 0) := fun c => R_X11_vote_57 R (atB 1 (Or.inr ⟨rfl, c⟩))
    refine ⟨Nat.le_of_ble_eq_true rfl, R_X11_vote_0 R (an o159 (an o159 (an (ak_of sh163 (by decide) (by decide)) ?_)))⟩
    rw [show up M 159 0 0 (159 + 4) (Int.toNat 0) = s.1 10 1 from h1.1.2.1.1]
    refine br (fun d1 => bf (by decide) (br (fun d2 => bf (by decide) (br (fun d3 => bad (fun z => d3 z.2.1)) (fun d3 => br (fun d4 => bt (by decide) (R_X11_vote_61 R (atB 0 (Or.inl ⟨rfl, ?_⟩)))) (fun d4 => bf (by decide) (bad (fun z => d4 z.2.2)))))) (fun d2 => bt rfl (bad (fun z => d2 ?_))))) (fun d1 => bt rfl (bad (fun z => d1 ?_)))
    · have d3 : andI f g = 0 := Classical.not_not.mp d3
      rw [eall] at d1 d2
      exact ⟨⟨d1, d2⟩, d3, d4⟩
    · rw [eall]; exact z.1.2
    · rw [eall]; exact z.1.1

  · exact h.elim
def G_X11_hollow : FN := fun as M Q => match as with
  | [.inr (.inl k), .inl w] => k = 159 ∧ mS cd1 (an_hollow w) M Q
  | _ => False
def b_X11_hollow_0 : List AT := [tx_al 0, tx_ic 0, tx_pi 11 0, tx_al 0, tx_il 1, tx_ic 0, tx_ic 4, tx_call (nf G_X11_in) 3, tx_ifz r_ne 19, tx_ic 1, tx_fall 20]
def b_X11_hollow_19 : List AT := [tx_ic 0, tx_fall 20]
def b_X11_hollow_20 : List AT := [tx_ic 1, tx_ic 1, tx_callv 11 (nf G_X11_bad) 3, tx_ifz r_eq 30, tx_ic 0, tx_ri]
def b_X11_hollow_30 : List AT := [tx_ic 0, tx_is 2, tx_ic 1, tx_al 0, tx_gr 11 4, tx_ic 1, tx_ia, tx_bin shlI, tx_ic 1, tx_bin f_sub, tx_is 3, tx_ic 0, tx_is 4, tx_ic (-1), tx_is 5, tx_ic 0, tx_is 6, tx_fall 52]
def b_X11_hollow_52 : List AT := [tx_il 6, tx_ic 1, tx_al 0, tx_gr 11 4, tx_ic 1, tx_ia, tx_bin shlI, tx_cmp r_ge 126, tx_al 0, tx_il 6, tx_callv 11 (nf G_X11_areRight) 1, tx_ifz r_ne 77, tx_fall 120]
def b_X11_hollow_77 : List AT := [tx_inc 2 1, tx_il 3, tx_il 6, tx_bin andI, tx_is 3, tx_il 4, tx_il 6, tx_bin orI, tx_is 4, tx_il 5, tx_ic (-1), tx_cmp r_eq 111, tx_il 6, tx_call (nf G_X11_ones) 1, tx_il 5, tx_call (nf G_X11_ones) 1, tx_cmp r_ge 116, tx_fall 111]
def b_X11_hollow_111 : List AT := [tx_il 6, tx_fall 118]
def b_X11_hollow_116 : List AT := [tx_il 5, tx_fall 118]
def b_X11_hollow_118 : List AT := [tx_is 5, tx_fall 120]
def b_X11_hollow_120 : List AT := [tx_inc 6 1, tx_fall 52]
def b_X11_hollow_126 : List AT := [tx_il 1, tx_ic 2, tx_cmp r_le 157, tx_il 5, tx_ic (-1), tx_cmp r_ne 141, tx_ic (-1), tx_fall 156]
def b_X11_hollow_141 : List AT := [tx_il 1, tx_ic 3, tx_cmp r_ne 154, tx_il 5, tx_call (nf G_X11_ones) 1, tx_fall 156]
def b_X11_hollow_154 : List AT := [tx_il 5, tx_fall 156]
def b_X11_hollow_156 : List AT := [tx_ri]
def b_X11_hollow_157 : List AT := [tx_il 1, tx_ifz r_ne 165, tx_il 2, tx_fall 197]
def b_X11_hollow_165 : List AT := [tx_il 2, tx_ifz r_ne 173, tx_ic 0, tx_fall 197]
def b_X11_hollow_173 : List AT := [tx_il 1, tx_ic 1, tx_cmp r_ne 182, tx_il 3, tx_fall 197]
def b_X11_hollow_182 : List AT := [tx_ic 1, tx_al 0, tx_gr 11 4, tx_ic 1, tx_ia, tx_bin shlI, tx_ic 1, tx_bin f_sub, tx_il 4, tx_ic (-1), tx_bin xorI, tx_bin andI, tx_fall 197]
def b_X11_hollow_197 : List AT := [tx_ri]
def R_X11_hollow (J : JT) (Q : QT) : Prop := (∀ ls st M, wpl J Q b_X11_hollow_0 ls st M → J 0 ls st M) ∧ (∀ ls st M, wpl J Q b_X11_hollow_19 ls st M → J 19 ls st M) ∧ (∀ ls st M, wpl J Q b_X11_hollow_20 ls st M → J 20 ls st M) ∧ (∀ ls st M, wpl J Q b_X11_hollow_30 ls st M → J 30 ls st M) ∧ (∀ ls st M, wpl J Q b_X11_hollow_52 ls st M → J 52 ls st M) ∧ (∀ ls st M, wpl J Q b_X11_hollow_77 ls st M → J 77 ls st M) ∧ (∀ ls st M, wpl J Q b_X11_hollow_111 ls st M → J 111 ls st M) ∧ (∀ ls st M, wpl J Q b_X11_hollow_116 ls st M → J 116 ls st M) ∧ (∀ ls st M, wpl J Q b_X11_hollow_118 ls st M → J 118 ls st M) ∧ (∀ ls st M, wpl J Q b_X11_hollow_120 ls st M → J 120 ls st M) ∧ (∀ ls st M, wpl J Q b_X11_hollow_126 ls st M → J 126 ls st M) ∧ (∀ ls st M, wpl J Q b_X11_hollow_141 ls st M → J 141 ls st M) ∧ (∀ ls st M, wpl J Q b_X11_hollow_154 ls st M → J 154 ls st M) ∧ (∀ ls st M, wpl J Q b_X11_hollow_156 ls st M → J 156 ls st M) ∧ (∀ ls st M, wpl J Q b_X11_hollow_157 ls st M → J 157 ls st M) ∧ (∀ ls st M, wpl J Q b_X11_hollow_165 ls st M → J 165 ls st M) ∧ (∀ ls st M, wpl J Q b_X11_hollow_173 ls st M → J 173 ls st M) ∧ (∀ ls st M, wpl J Q b_X11_hollow_182 ls st M → J 182 ls st M) ∧ (∀ ls st M, wpl J Q b_X11_hollow_197 ls st M → J 197 ls st M)
theorem R_X11_hollow_0 {J : JT} {Q : QT} (R : R_X11_hollow J Q) {ls : Ls} {st : St} {M : Mem} (h : wpl J Q b_X11_hollow_0 ls st M) : J 0 ls st M := R.1 ls st M h
theorem R_X11_hollow_19 {J : JT} {Q : QT} (R : R_X11_hollow J Q) {ls : Ls} {st : St} {M : Mem} (h : wpl J Q b_X11_hollow_19 ls st M) : J 19 ls st M := R.2.1 ls st M h
theorem R_X11_hollow_20 {J : JT} {Q : QT} (R : R_X11_hollow J Q) {ls : Ls} {st : St} {M : Mem} (h : wpl J Q b_X11_hollow_20 ls st M) : J 20 ls st M := R.2.2.1 ls st M h
theorem R_X11_hollow_30 {J : JT} {Q : QT} (R : R_X11_hollow J Q) {ls : Ls} {st : St} {M : Mem} (h : wpl J Q b_X11_hollow_30 ls st M) : J 30 ls st M := R.2.2.2.1 ls st M h
theorem R_X11_hollow_52 {J : JT} {Q : QT} (R : R_X11_hollow J Q) {ls : Ls} {st : St} {M : Mem} (h : wpl J Q b_X11_hollow_52 ls st M) : J 52 ls st M := R.2.2.2.2.1 ls st M h
theorem R_X11_hollow_77 {J : JT} {Q : QT} (R : R_X11_hollow J Q) {ls : Ls} {st : St} {M : Mem} (h : wpl J Q b_X11_hollow_77 ls st M) : J 77 ls st M := R.2.2.2.2.2.1 ls st M h
theorem R_X11_hollow_111 {J : JT} {Q : QT} (R : R_X11_hollow J Q) {ls : Ls} {st : St} {M : Mem} (h : wpl J Q b_X11_hollow_111 ls st M) : J 111 ls st M := R.2.2.2.2.2.2.1 ls st M h
theorem R_X11_hollow_116 {J : JT} {Q : QT} (R : R_X11_hollow J Q) {ls : Ls} {st : St} {M : Mem} (h : wpl J Q b_X11_hollow_116 ls st M) : J 116 ls st M := R.2.2.2.2.2.2.2.1 ls st M h
theorem R_X11_hollow_118 {J : JT} {Q : QT} (R : R_X11_hollow J Q) {ls : Ls} {st : St} {M : Mem} (h : wpl J Q b_X11_hollow_118 ls st M) : J 118 ls st M := R.2.2.2.2.2.2.2.2.1 ls st M h
theorem R_X11_hollow_120 {J : JT} {Q : QT} (R : R_X11_hollow J Q) {ls : Ls} {st : St} {M : Mem} (h : wpl J Q b_X11_hollow_120 ls st M) : J 120 ls st M := R.2.2.2.2.2.2.2.2.2.1 ls st M h
theorem R_X11_hollow_126 {J : JT} {Q : QT} (R : R_X11_hollow J Q) {ls : Ls} {st : St} {M : Mem} (h : wpl J Q b_X11_hollow_126 ls st M) : J 126 ls st M := R.2.2.2.2.2.2.2.2.2.2.1 ls st M h
theorem R_X11_hollow_141 {J : JT} {Q : QT} (R : R_X11_hollow J Q) {ls : Ls} {st : St} {M : Mem} (h : wpl J Q b_X11_hollow_141 ls st M) : J 141 ls st M := R.2.2.2.2.2.2.2.2.2.2.2.1 ls st M h
theorem R_X11_hollow_154 {J : JT} {Q : QT} (R : R_X11_hollow J Q) {ls : Ls} {st : St} {M : Mem} (h : wpl J Q b_X11_hollow_154 ls st M) : J 154 ls st M := R.2.2.2.2.2.2.2.2.2.2.2.2.1 ls st M h
theorem R_X11_hollow_156 {J : JT} {Q : QT} (R : R_X11_hollow J Q) {ls : Ls} {st : St} {M : Mem} (h : wpl J Q b_X11_hollow_156 ls st M) : J 156 ls st M := R.2.2.2.2.2.2.2.2.2.2.2.2.2.1 ls st M h
theorem R_X11_hollow_157 {J : JT} {Q : QT} (R : R_X11_hollow J Q) {ls : Ls} {st : St} {M : Mem} (h : wpl J Q b_X11_hollow_157 ls st M) : J 157 ls st M := R.2.2.2.2.2.2.2.2.2.2.2.2.2.2.1 ls st M h
theorem R_X11_hollow_165 {J : JT} {Q : QT} (R : R_X11_hollow J Q) {ls : Ls} {st : St} {M : Mem} (h : wpl J Q b_X11_hollow_165 ls st M) : J 165 ls st M := R.2.2.2.2.2.2.2.2.2.2.2.2.2.2.2.1 ls st M h
theorem R_X11_hollow_173 {J : JT} {Q : QT} (R : R_X11_hollow J Q) {ls : Ls} {st : St} {M : Mem} (h : wpl J Q b_X11_hollow_173 ls st M) : J 173 ls st M := R.2.2.2.2.2.2.2.2.2.2.2.2.2.2.2.2.1 ls st M h
theorem R_X11_hollow_182 {J : JT} {Q : QT} (R : R_X11_hollow J Q) {ls : Ls} {st : St} {M : Mem} (h : wpl J Q b_X11_hollow_182 ls st M) : J 182 ls st M := R.2.2.2.2.2.2.2.2.2.2.2.2.2.2.2.2.2.1 ls st M h
theorem R_X11_hollow_197 {J : JT} {Q : QT} (R : R_X11_hollow J Q) {ls : Ls} {st : St} {M : Mem} (h : wpl J Q b_X11_hollow_197 ls st M) : J 197 ls st M := R.2.2.2.2.2.2.2.2.2.2.2.2.2.2.2.2.2.2 ls st M h
theorem P_X11_hollow {J : JT} {Q : QT} (R : R_X11_hollow J Q) {as : List Vl} {M : Mem} (h : nf G_X11_hollow as M Q) : (enL as).length ≤ 7 ∧ J 0 (padL 7 (enL as)) [] M := by
  unfold nf G_X11_hollow at h
  split at h
  · rename_i k w
    obtain ⟨rfl, s, hM, hQ⟩ := h
    have h1 := hM.t0 0
    have e0 : up M 159 0 0 159 0 = 0 := up_eq
    have mf : MF M (up M 159 0 0) := MF.t0 M 0
    have no2 : ¬ (0 ≤ w ∧ w ≤ 4) → an_hollow w s = nay s 2 := fun c => if_pos c
    have body : (0 ≤ w ∧ w ≤ 4) → J 30 [some (vR 159), some (vI w), none, none, none, none, none] [] (up M 159 0 0) := by
      intro c1
      have ea : an_hollow w s = _ := if_neg (fun z => z c1)
      rw [ea] at hQ
      generalize up M 159 0 0 = M1 at h1 e0 mf
      have ho := h1.1.1
      obtain ⟨n1, n2⟩ := nT_le ho
      have b14 := p14 n1
      have e1 : M1 (159 + 4) (Int.toNat 1) = ((nT s.1 : Nat) : Int) := by rw [n2]; exact h1.1.2.1.2.1
      have esh : shlI 1 ((nT s.1 : Nat) : Int) = ((2 ^ nT s.1 : Nat) : Int) := shl1 _ (by omega)
      have eall : f_sub (shlI 1 ((nT s.1 : Nat) : Int)) 1 = ((2 ^ nT s.1 : Nat) : Int) - 1 := sh1 _ n1
      have nb : hN s.1 (2 ^ nT s.1) = 0 ↔ hB s.1 (2 ^ nT s.1) = -1 := hN_hB _ _
      have bb := hB_bd s.1 (2 ^ nT s.1)
      have yl := (hY_sp s.1 (2 ^ nT s.1) (Nat.le_refl _)).1
      generalize hV : (if w = 0 then hN s.1 (2 ^ nT s.1) else if hN s.1 (2 ^ nT s.1) = 0 then (if w ≤ 2 then 0 else -1) else if w = 1 then ((hA s.1 (2 ^ nT s.1) : Nat) : Int) else if w = 2 then andI (((2 ^ nT s.1 : Nat) : Int) - 1) (xorI ((hY s.1 (2 ^ nT s.1) : Nat) : Int) (-1)) else if w = 3 then ((popc (hB s.1 (2 ^ nT s.1)).toNat : Nat) : Int) else hB s.1 (2 ^ nT s.1)) = V at hQ
      have hQ' : ∀ v : Int, v = V → Q (.inl (some (vI v))) M1 := fun v hv => hQ M1 v mf h1 e0 (fun _ => hv)
      clear hQ
      have fin : ∀ (a b c d x : Int), a = hN s.1 (2 ^ nT s.1) → b = ((hA s.1 (2 ^ nT s.1) : Nat) : Int) → c = ((hY s.1 (2 ^ nT s.1) : Nat) : Int) → d = hB s.1 (2 ^ nT s.1) → J 126 [some (vR 159), some (vI w), some (vI a), some (vI b), some (vI c), some (vI d), some (vI x)] [] M1 := by
        intro a b c d x ha hb hc hd
        have l1 : ∀ v : Int, v = V → J 197 [some (vR 159), some (vI w), some (vI a), some (vI b), some (vI c), some (vI d), some (vI x)] [vI v] M1 := fun v hv => R_X11_hollow_197 R (hQ' v hv)
        have l2 : ∀ v : Int, v = V → J 156 [some (vR 159), some (vI w), some (vI a), some (vI b), some (vI c), some (vI d), some (vI x)] [vI v] M1 := fun v hv => R_X11_hollow_156 R (hQ' v hv)
        refine R_X11_hollow_126 R (br (fun g => R_X11_hollow_157 R (br (fun g2 => R_X11_hollow_165 R (br (fun g3 => R_X11_hollow_173 R (br (fun g4 => R_X11_hollow_182 R (an o159 (an (ak_of sh163 (by decide) (by decide)) ?_))) (fun g4 => l1 b ?_))) (fun g3 => l1 0 ?_))) (fun g2 => l1 a ?_))) (fun g => br (fun g2 => R_X11_hollow_141 R (br (fun g3 => R_X11_hollow_154 R (l2 d ?_)) (fun g3 => ⟨⟨?_, ?_⟩, l2 _ ?_⟩))) (fun g2 => l2 (-1) ?_)))
        · have g : w ≤ 2 := g
          have g2 : ¬ w = 0 := g2
          have g3 : ¬ a = 0 := g3
          have g4 : ¬ w = 1 := g4
          show J 197 _ [vI (andI (f_sub (shlI 1 (M1 (159 + 4) (Int.toNat 1))) 1) (xorI c (-1)))] M1
          rw [e1, eall]
          refine l1 _ ?_
          rw [← hV, if_neg g2, if_neg (by rw [← ha]; exact g3), if_neg g4, if_pos (by omega), hc]
        · have g2 : ¬ w = 0 := g2
          have g3 : ¬ a = 0 := g3
          have g4 : w = 1 := Classical.not_not.mp g4
          rw [← hV, if_neg g2, if_neg (by rw [← ha]; exact g3), if_pos g4]
          exact hb
        · have g : w ≤ 2 := g
          have g2 : ¬ w = 0 := g2
          have g3 : a = 0 := Classical.not_not.mp g3
          rw [← hV, if_neg g2, if_pos (by rw [← ha]; exact g3), if_pos g]
        · have g2 : w = 0 := Classical.not_not.mp g2
          rw [← hV, if_pos g2]
          exact ha
        · have g : ¬ w ≤ 2 := g
          have g2 : ¬ d = -1 := g2
          have g3 : ¬ w = 3 := g3
          rw [← hV, if_neg (by omega), if_neg (fun z => g2 (hd.trans (nb.mp z))), if_neg (by omega), if_neg (by omega), if_neg g3]
          exact hd
        · have g2 : ¬ d = -1 := g2
          omega
        · have g2 : ¬ d = -1 := g2
          omega
        · have g : ¬ w ≤ 2 := g
          have g2 : ¬ d = -1 := g2
          have g3 : w = 3 := Classical.not_not.mp g3
          rw [← hV, if_neg (by omega), if_neg (fun z => g2 (hd.trans (nb.mp z))), if_neg (by omega), if_neg (by omega), if_pos g3, hd]
        · have g : ¬ w ≤ 2 := g
          have g2 : d = -1 := Classical.not_not.mp g2
          rw [← hV, if_neg (by omega), if_pos (nb.mpr (hd.symm.trans g2)), if_neg g]
      have key : ∀ i : Nat, i ≤ 2 ^ nT s.1 → ∀ (a b c d x : Int), x = (i : Int) → a = hN s.1 i → b = ((hA s.1 i : Nat) : Int) → c = ((hY s.1 i : Nat) : Int) → d = hB s.1 i → J 52 [some (vR 159), some (vI w), some (vI a), some (vI b), some (vI c), some (vI d), some (vI x)] [] M1 := by
        refine dn ?_ ?_
        · intro a b c d x hx ha hb hc hd
          exact R_X11_hollow_52 R (an o159 (an (ak_of sh163 (by decide) (by decide)) (bt (show shlI 1 (M1 (159 + 4) (Int.toNat 1)) ≤ x by rw [e1, esh]; omega) (fin a b c d x ha hb hc hd))))
        · intro i hi ih a b c d x hx ha hb hc hd
          have hxn : x.toNat = i := by omega
          have bi := hB_bd s.1 i
          have al := (hA_sp s.1 i).1
          have yl' := (hY_sp s.1 i (by omega)).1
          have nbd : 0 ≤ hN s.1 i ∧ hN s.1 i ≤ (i : Int) * 1 := sumN_bd (by decide) (fun j _ => by split <;> decide)
          refine R_X11_hollow_52 R (an o159 (an (ak_of sh163 (by decide) (by decide)) (bf (show ¬ shlI 1 (M1 (159 + 4) (Int.toNat 1)) ≤ x by rw [e1, esh]; omega) (an o159 ⟨s.1, ⟨rfl, by omega, by omega⟩, h1.1, h1.2.2.1, ?_⟩))))
          rw [hxn]
          refine br (fun q => bt (by decide) (R_X11_hollow_77 R ?_)) (fun q => bf (by decide) (R_X11_hollow_120 R (ih _ _ _ _ _ (wn hx (by omega)) ?_ ?_ ?_ ?_)))
          · have ea : w32 (a + 1) = hN s.1 (i + 1) := by
              have e9 : hN s.1 (i + 1) = hN s.1 i + 1 := by
                show sumN _ (i + 1) = sumN _ i + 1
                rw [sumN, if_pos q]
              rw [e9, ha]
              exact w1 (by omega) (by omega) rfl
            have eb : andI b x = ((hA s.1 (i + 1) : Nat) : Int) := by
              rw [hb, hx, andI_n (by omega), hA, if_pos q]
            have ec : orI c x = ((hY s.1 (i + 1) : Nat) : Int) := by
              rw [hc, hx, orI_n (by omega) (by omega), hY, if_pos q]
            have at118 : ∀ v : Int, v = hB s.1 (i + 1) → J 118 [some (vR 159), some (vI w), some (vI (w32 (a + 1))), some (vI (andI b x)), some (vI (orI c x)), some (vI d), some (vI x)] [vI v] M1 := by
              intro v hv
              rw [ea, eb, ec]
              exact R_X11_hollow_118 R (R_X11_hollow_120 R (ih _ _ _ _ _ (wn hx (by omega)) rfl rfl rfl hv))
            have stepY : (hB s.1 i = -1 ∨ popc i < popc (hB s.1 i).toNat) → hB s.1 (i + 1) = (i : Int) := fun z => by rw [hB, if_pos ⟨q, z⟩]
            have stepN : ¬ (hB s.1 i = -1 ∨ popc i < popc (hB s.1 i).toNat) → hB s.1 (i + 1) = hB s.1 i := fun z => by rw [hB, if_neg (fun z2 => z z2.2)]
            clear ea eb ec
            refine br (fun g => R_X11_hollow_111 R (at118 x ?_)) (fun g => ?_)
            · have g : d = -1 := g
              rw [stepY (Or.inl (hd.symm.trans g))]; exact hx
            · have g : ¬ d = -1 := g
              refine ⟨⟨by omega, by omega⟩, ?_⟩
              rw [hxn]
              refine ⟨⟨by omega, by omega⟩, ?_⟩
              refine br (fun g2 => R_X11_hollow_116 R (at118 d ?_)) (fun g2 => R_X11_hollow_111 R (at118 x ?_))
              · have g2 : ((popc d.toNat : Nat) : Int) ≤ ((popc i : Nat) : Int) := g2
                rw [hd] at g g2
                rw [stepN (by omega)]; exact hd
              · have g2 : ¬ ((popc d.toNat : Nat) : Int) ≤ ((popc i : Nat) : Int) := g2
                rw [hd] at g2
                rw [stepY (Or.inr (by omega))]; exact hx
          · have e9 : hN s.1 (i + 1) = hN s.1 i := by
              show sumN _ (i + 1) = sumN _ i
              rw [sumN, if_neg q]
              omega
            rw [e9]; exact ha
          · rw [hA, if_neg q]; exact hb
          · rw [hY, if_neg q]; exact hc
          · rw [hB, if_neg (fun z => q z.1)]; exact hd
      refine R_X11_hollow_30 R (an o159 (an (ak_of sh163 (by decide) (by decide)) ?_))
      show J 52 [some (vR 159), some (vI w), some (vI 0), some (vI (f_sub (shlI 1 (M1 (159 + 4) (Int.toNat 1))) 1)), some (vI 0), some (vI (-1)), some (vI 0)] [] M1
      rw [e1, eall]
      have p0 : 0 < 2 ^ nT s.1 := Nat.pow_pos (by decide)
      refine key 0 (Nat.zero_le _) _ _ _ _ _ rfl rfl ?_ rfl rfl
      show ((2 ^ nT s.1 : Nat) : Int) - 1 = ((2 ^ nT s.1 - 1 : Nat) : Int)
      omega
    have atB : ∀ b : Int, (b = 0 ∧ (0 ≤ w ∧ w ≤ 4)) ∨ (b = 1 ∧ ¬ (0 ≤ w ∧ w ≤ 4)) → J 20 [some (vR 159), some (vI w), none, none, none, none, none] [vI b, vR 159] (up M 159 0 0) := by
      intro b hb
      rcases hb with ⟨rfl, c2⟩ | ⟨rfl, c2⟩
      · exact R_X11_hollow_20 R (an o159 ⟨⟨rfl, by decide, by decide, e0⟩, fun z => absurd rfl z, fun _ => bt rfl (body c2)⟩)
      · exact R_X11_hollow_20 R (an o159 ⟨⟨rfl, by decide, by decide, e0⟩, fun _ => bf (by decide) (m_no (cd := cd1) (Q := fun r M' => Q (.inl r) M') hM 2 1 (by decide) rfl (no2 c2) 0 hQ), fun z => absurd z (by decide)⟩)
    exact ⟨Nat.le_of_ble_eq_true rfl, R_X11_hollow_0 R (an o159 (br (fun d0 => bt (by decide) (R_X11_hollow_19 R (atB 0 (Or.inl ⟨rfl, by omega⟩)))) (fun d0 => bf (by decide) (atB 1 (Or.inr ⟨rfl, by omega⟩)))))⟩

  · exact h.elim