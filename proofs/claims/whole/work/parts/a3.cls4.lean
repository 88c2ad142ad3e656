
theorem Cls.new {M M' : Mem} {s : AS} {B : Mem} (h : Cls M s) (sh : SameH B s.1) (hc : CuR M' B) (e0 : ∀ v, (v = 1 ∨ v = 2 ∨ v = 8 ∨ v = 16 ∨ v = 17) → M' 0 v = M 0 v) (c3 : ((M' 0 3).toNat = 25 ∧ (M' 0 4).toNat = 30) ∨ ((M' 0 3).toNat = 30 ∧ (M' 0 4).toNat = 25)) (hb : BalRel M' 35 B 15 (B 10 6)) (hv : VoteOK B 15 (B 10 6)) (e : ∀ u v, (u = 1 ∨ u = 2 ∨ (132 ≤ u ∧ u ≤ 158)) → M' u v = M u v) (k1 : M' 41 4 = 0) (k2 : M' 129 0 = 0) : Cls M' (B, s.2.1, s.2.2) := by
  obtain ⟨-, c2, -, -, ⟨i1, i2, i3⟩, ⟨t1, t2, t3, t4⟩, ⟨r1, r2⟩, -, -⟩ := h
  have n3 : nI3 s ≤ 3 := by have := i1.1; unfold nI3; omega
  refine ⟨hc, by rw [e0 1 (by omega), e0 2 (by omega)]; exact c2, c3, ⟨hb, hv⟩, ⟨i1.same sh, by rw [e0 8 (by omega)]; exact i2, fun i hi => ?_⟩, ⟨t1, by rw [e _ _ (by omega)]; exact t2, by rw [e _ _ (by omega)]; exact t3, fun i hi => by rw [e _ _ (by omega)]; exact t4 i hi⟩, ⟨by rw [e0 16 (by omega)]; exact r1, by rw [e0 17 (by omega)]; exact r2⟩, fun z => absurd k1 z, fun z => absurd k2 z⟩
  have hi : i < nI3 s := hi
  exact ⟨(i3 i hi).1.kept (fun u v a b => e u v (by omega)), (i3 i hi).2.kept (fun u v a b => e u v (by omega))⟩
theorem CuR.same {M A B : Mem} (h : CuR M A) (sh : SameH B A) (e5 : B 10 5 = A 10 5) (el : ∀ u v, 11 ≤ u → u ≤ 14 → B u v = A u v) : CuR M B := by
  obtain ⟨h1, h2, h3, h4, h5, h6⟩ := h
  obtain ⟨n1, n2, n3, n4⟩ := sh.n
  refine ⟨h1, h2, ?_, ?_, h5.same sh, by rw [e5]; exact h6.same sh el⟩
  · obtain ⟨a1, a2, a3, a4, a5, a6, a7, a8, a9⟩ := h3
    refine ⟨by rw [sh.2 1 (by omega)]; exact a1, by rw [sh.2 2 (by omega)]; exact a2, by rw [sh.2 3 (by omega)]; exact a3, by rw [sh.2 4 (by omega)]; exact a4, by rw [sh.2 0 (by omega)]; exact a5, fun p hp => ?_, fun p hp => ?_, fun p hp => ?_, fun p hp => ?_⟩
    · rw [n1] at hp; rw [sh.1 4 p (by omega), sh.1 5 p (by omega)]; exact a6 p hp
    · rw [n2] at hp; rw [sh.1 0 p (by omega), sh.1 1 p (by omega), sh.1 2 p (by omega), sh.1 3 p (by omega)]; exact a7 p hp
    · rw [n3] at hp; rw [sh.1 6 p (by omega)]; exact a8 p hp
    · rw [n4] at hp; rw [sh.1 7 p (by omega), sh.1 8 p (by omega), sh.1 9 p (by omega)]; exact a9 p hp
  · rw [e5]
    refine ⟨h4.1, fun i hi => ?_⟩
    rw [el 11 i (by omega) (by omega), el (11 + 1) i (by omega) (by omega), el (11 + 2) i (by omega) (by omega), el (11 + 3) i (by omega) (by omega)]
    exact h4.2 i hi
theorem runT_cong {Ab : Mem} {wo : Int} {f g : Nat → Int} : ∀ {n : Nat}, (∀ i, i < n → f i = g i) → runT Ab wo f n = runT Ab wo g n
  | 0, _ => by rw [runT, runT]
  | n + 1, h => by rw [runT, runT, runT_cong (fun i hi => h i (by omega)), h n (by omega)]
/-- so many minutes of speech behind the ones told ahead -/
noncomputable def pzS (Ab : Mem) (F j : Nat) : Mem := runT Ab (-1) (fun n => tmF (F : Int) (j : Int) (n : Int)) (F + j)
theorem pz_0 (Ab : Mem) (F : Nat) : pzS Ab F 0 = run Ab (-1) F := run_far Ab (-1) _ _ F (by omega)
theorem pz_s (Ab : Mem) (F j : Nat) : stp Ab (-1) ((F + j : Nat) : Int) (-1) (pzS Ab F j) = pzS Ab F (j + 1) := by
  have e : pzS Ab F j = runT Ab (-1) (fun n => tmF (F : Int) ((j + 1 : Nat) : Int) (n : Int)) (F + j) := runT_cong (fun i hi => by
    unfold tmF
    by_cases q : (i : Int) < (F : Int)
    · rw [if_pos q, if_pos q]
    · rw [if_neg q, if_neg q, if_pos (by omega), if_pos (by omega)])
  have e2 : tmF (F : Int) ((j + 1 : Nat) : Int) ((F + j : Nat) : Int) = -1 := by
    unfold tmF
    rw [if_neg (by omega), if_pos (by omega)]
  rw [e]
  unfold pzS
  rw [show F + (j + 1) = (F + j) + 1 by omega, runT, e2]
theorem pz_e (Ab : Mem) (F j : Nat) : stp Ab (-1) ((F + j : Nat) : Int) (F : Int) (pzS Ab F j) = runT Ab (-1) (fun n => tmF (F : Int) (j : Int) (n : Int)) (F + j + 1) := by
  have e2 : tmF (F : Int) (j : Int) ((F + j : Nat) : Int) = (F : Int) := by
    unfold tmF
    by_cases q : j = 0
    · subst q
      by_cases q2 : ((F + 0 : Nat) : Int) < (F : Int)
      · omega
      · rw [if_neg q2, if_neg (by omega)]; omega
    · rw [if_neg (by omega), if_neg (by omega)]; omega
  rw [runT, e2]
  rfl
theorem sp_0 (Ab : Mem) (k : Nat) (h0 : 0 ≤ Ab 7 k) : spB Ab k 0 = psB Ab (-1) (Ab 10 0) k := by
  have e : spR Ab k 0 = run Ab (-1) ((Ab 7 k).toNat + 1) := by
    unfold spR run
    rw [Int.add_zero]
    refine runT_cong (fun i hi => ?_)
    unfold tmF
    by_cases q : (i : Int) < Ab 7 k
    · rw [if_pos q]
    · rw [if_neg q, if_neg (by omega)]; omega
  unfold spB psB
  rw [e]
theorem sp_e {Ab : Mem} {k F : Nat} (j : Nat) (h : Ab 7 k = (F : Int)) : spR Ab k (j : Int) = runT Ab (-1) (fun n => tmF (F : Int) (j : Int) (n : Int)) (F + j + 1) := by
  unfold spR
  rw [h, show ((F : Int) + (j : Int)).toNat = F + j by omega]

def F_X10_decides : FT := fun as M Q => match as with
  | [.inr (.inl k), .inl t] => k = 0 ∧ cS (an_decides t) M Q
  | _ => False
def F_X10_speech : FT := fun as M Q => match as with
  | [.inr (.inl k), .inl m, .inl l] => k = 0 ∧ cS (an_speech m l) M Q
  | _ => False
def F_X10_tired : FT := fun as M Q => match as with
  | [.inr (.inl k), .inl m] => k = 0 ∧ cS (an_tired m) M Q
  | _ => False
def b_X10_decides_0 : List AT := [tx_al 0, tx_al 0, tx_gm 10 1, tx_il 1, tx_callv 6 (nf G_X6_hasThing) 1, tx_callv 10 F_X10_needElement 1, tx_al 0, tx_gr 10 93, tx_al 0, tx_gm 10 1, tx_al 0, tx_gm 10 3, tx_il 1, tx_callv 8 (nf G_X8_begin) 3, tx_ic 0, tx_is 2, tx_ic 0, tx_is 3, tx_fall 32]
def b_X10_decides_32 : List AT := [tx_il 3, tx_ic 120, tx_cmp r_ge 64, tx_al 0, tx_gr 10 93, tx_il 3, tx_il 3, tx_callv 8 (nf G_X8_goThrough) 2, tx_il 2, tx_al 0, tx_gr 10 93, tx_il 3, tx_callv 8 (nf G_X8_passedBitsAt) 1, tx_bin orI, tx_is 2, tx_inc 3 1, tx_fall 32]
def b_X10_decides_64 : List AT := [tx_il 2, tx_al 0, tx_callv 10 (nf G_X10_chronicled) 0, tx_al 0, tx_gm 10 1, tx_gi 6 14, tx_callv 3 (nf G_X3_passedBits) 1, tx_bin xorI, tx_ri]
def R_X10_decides (J : JT) (Q : QT) : Prop := (∀ ls st M, wpl J Q b_X10_decides_0 ls st M → J 0 ls st M) ∧ (∀ ls st M, wpl J Q b_X10_decides_32 ls st M → J 32 ls st M) ∧ (∀ ls st M, wpl J Q b_X10_decides_64 ls st M → J 64 ls st M)
theorem R_X10_decides_0 {J : JT} {Q : QT} (R : R_X10_decides J Q) {ls : Ls} {st : St} {M : Mem} (h : wpl J Q b_X10_decides_0 ls st M) : J 0 ls st M := R.1 ls st M h
theorem R_X10_decides_32 {J : JT} {Q : QT} (R : R_X10_decides J Q) {ls : Ls} {st : St} {M : Mem} (h : wpl J Q b_X10_decides_32 ls st M) : J 32 ls st M := R.2.1 ls st M h
theorem R_X10_decides_64 {J : JT} {Q : QT} (R : R_X10_decides J Q) {ls : Ls} {st : St} {M : Mem} (h : wpl J Q b_X10_decides_64 ls st M) : J 64 ls st M := R.2.2 ls st M h
def b_X10_speech_0 : List AT := [tx_al 0, tx_al 0, tx_gm 10 1, tx_il 1, tx_callv 6 (nf G_X6_hasMotion) 1, tx_callv 10 F_X10_needElement 1, tx_al 0, tx_il 2, tx_ic 1, tx_cmp r_lt 28, tx_il 2, tx_ic 60, tx_cmp r_gt 28, tx_ic 1, tx_fall 29]
def b_X10_speech_28 : List AT := [tx_ic 0, tx_fall 29]
def b_X10_speech_29 : List AT := [tx_callv 10 F_X10_needArgument 1, tx_al 0, tx_gm 10 1, tx_gr 6 8, tx_il 1, tx_ia, tx_is 3, tx_al 0, tx_il 3, tx_callv 10 (nf G_X10_pauseFrom) 1, tx_ic 0, tx_is 4, tx_fall 50]
def b_X10_speech_50 : List AT := [tx_il 4, tx_il 2, tx_cmp r_ge 74, tx_al 0, tx_gr 10 69, tx_il 3, tx_il 4, tx_bin f_add, tx_ic (-1), tx_callv 8 (nf G_X8_goThrough) 2, tx_inc 4 1, tx_fall 50]
def b_X10_speech_74 : List AT := [tx_al 0, tx_gr 10 69, tx_il 3, tx_il 2, tx_bin f_add, tx_il 3, tx_callv 8 (nf G_X8_goThrough) 2, tx_al 0, tx_gr 10 69, tx_il 1, tx_al 0, tx_gm 10 1, tx_gi 6 14, tx_callv 8 (nf G_X8_isPassed) 2, tx_rz]
def R_X10_speech (J : JT) (Q : QT) : Prop := (∀ ls st M, wpl J Q b_X10_speech_0 ls st M → J 0 ls st M) ∧ (∀ ls st M, wpl J Q b_X10_speech_28 ls st M → J 28 ls st M) ∧ (∀ ls st M, wpl J Q b_X10_speech_29 ls st M → J 29 ls st M) ∧ (∀ ls st M, wpl J Q b_X10_speech_50 ls st M → J 50 ls st M) ∧ (∀ ls st M, wpl J Q b_X10_speech_74 ls st M → J 74 ls st M)
theorem R_X10_speech_0 {J : JT} {Q : QT} (R : R_X10_speech J Q) {ls : Ls} {st : St} {M : Mem} (h : wpl J Q b_X10_speech_0 ls st M) : J 0 ls st M := R.1 ls st M h
theorem R_X10_speech_28 {J : JT} {Q : QT} (R : R_X10_speech J Q) {ls : Ls} {st : St} {M : Mem} (h : wpl J Q b_X10_speech_28 ls st M) : J 28 ls st M := R.2.1 ls st M h
theorem R_X10_speech_29 {J : JT} {Q : QT} (R : R_X10_speech J Q) {ls : Ls} {st : St} {M : Mem} (h : wpl J Q b_X10_speech_29 ls st M) : J 29 ls st M := R.2.2.1 ls st M h
theorem R_X10_speech_50 {J : JT} {Q : QT} (R : R_X10_speech J Q) {ls : Ls} {st : St} {M : Mem} (h : wpl J Q b_X10_speech_50 ls st M) : J 50 ls st M := R.2.2.2.1 ls st M h
theorem R_X10_speech_74 {J : JT} {Q : QT} (R : R_X10_speech J Q) {ls : Ls} {st : St} {M : Mem} (h : wpl J Q b_X10_speech_74 ls st M) : J 74 ls st M := R.2.2.2.2 ls st M h
def b_X10_tired_0 : List AT := tx_al 0 :: tx_al 0 :: tx_gm 10 1 :: tx_il 1 :: tx_callv 6 (nf G_X6_hasMotion) 1 :: tx_callv 10 F_X10_needElement 1 :: tx_al 0 :: tx_callv 10 (nf G_X10_chronicled) 0 :: tx_il 1 :: tx_al 0 :: tx_gm 10 1 :: tx_gi 6 14 :: tx_callv 3 (nf G_X3_isPassed) 2 :: tx_is 2 :: tx_al 0 :: tx_gm 10 1 :: tx_gr 6 8 :: tx_il 1 :: tx_ia :: tx_is 3 :: tx_al 0 :: tx_il 3 :: tx_callv 10 (nf G_X10_pauseFrom) 1 :: tx_ic 1 :: tx_is 4 :: tx_fall 46 :: []
def b_X10_tired_46 : List AT := tx_il 4 :: tx_ic 60 :: tx_cmp r_gt 118 :: tx_al 0 :: tx_gr 10 69 :: tx_il 3 :: tx_il 4 :: tx_bin f_add :: tx_ic 1 :: tx_bin f_sub :: tx_ic (-1) :: tx_callv 8 (nf G_X8_goThrough) 2 :: tx_al 0 :: tx_gr 10 93 :: tx_al 0 :: tx_gr 10 69 :: tx_callv 8 (nf G_X8_copyFrom) 1 :: tx_al 0 :: tx_gr 10 93 :: tx_il 3 :: tx_il 4 :: tx_bin f_add :: tx_il 3 :: tx_callv 8 (nf G_X8_goThrough) 2 :: tx_al 0 :: tx_gr 10 93 :: tx_il 1 :: tx_al 0 :: tx_gm 10 1 :: tx_gi 6 14 :: tx_callv 8 (nf G_X8_isPassed) 2 :: tx_il 2 :: tx_cmp r_eq 112 :: tx_il 4 :: tx_ri :: []
def b_X10_tired_112 : List AT := [tx_inc 4 1, tx_fall 46]
def b_X10_tired_118 : List AT := [tx_ic (-1), tx_ri]
def R_X10_tired (J : JT) (Q : QT) : Prop := (∀ ls st M, wpl J Q b_X10_tired_0 ls st M → J 0 ls st M) ∧ (∀ ls st M, wpl J Q b_X10_tired_46 ls st M → J 46 ls st M) ∧ (∀ ls st M, wpl J Q b_X10_tired_112 ls st M → J 112 ls st M) ∧ (∀ ls st M, wpl J Q b_X10_tired_118 ls st M → J 118 ls st M)
theorem R_X10_tired_0 {J : JT} {Q : QT} (R : R_X10_tired J Q) {ls : Ls} {st : St} {M : Mem} (h : wpl J Q b_X10_tired_0 ls st M) : J 0 ls st M := R.1 ls st M h
theorem R_X10_tired_46 {J : JT} {Q : QT} (R : R_X10_tired J Q) {ls : Ls} {st : St} {M : Mem} (h : wpl J Q b_X10_tired_46 ls st M) : J 46 ls st M := R.2.1 ls st M h
theorem R_X10_tired_112 {J : JT} {Q : QT} (R : R_X10_tired J Q) {ls : Ls} {st : St} {M : Mem} (h : wpl J Q b_X10_tired_112 ls st M) : J 112 ls st M := R.2.2.1 ls st M h
theorem R_X10_tired_118 {J : JT} {Q : QT} (R : R_X10_tired J Q) {ls : Ls} {st : St} {M : Mem} (h : wpl J Q b_X10_tired_118 ls st M) : J 118 ls st M := R.2.2.2 ls st M h
theorem P_X10_decides {J : JT} {Q : QT} (R : R_X10_decides J Q) {as : List Vl} {M : Mem} (h : F_X10_decides as M Q) : (enL as).length ≤ 4 ∧ J 0 (padL 4 (enL as)) [] M := by
  unfold F_X10_decides at h
  split at h
  · rename_i k t
    obtain ⟨rfl, s, hM, hQ⟩ := h
    have hpl := hM.pl
    have hk := hpl.1
    have hp := hpl.2.1
    have ho := hpl.2.2
    have no1 : ¬ (0 ≤ t ∧ t < s.1 10 2) → an_decides t s = nay s 1 := fun c => if_pos c
    have ea : (0 ≤ t ∧ t < s.1 10 2) → an_decides t s = _ := fun c1 => if_neg (fun z => z c1)
    refine ⟨Nat.le_of_ble_eq_true rfl, R_X10_decides_0 R (an o0 (an (pl_ob hk) ⟨s.1, hpl, br (fun c1 => an o0 ⟨rfl, fun _ => ?_, fun z => absurd z (by decide)⟩) (fun c1 => an o0 ⟨rfl, fun z => absurd rfl z, fun _ => c_no (Q := Q) hM 1 (by decide) (no1 c1) (CF.rf M) hQ⟩)⟩))⟩
    have ea := ea c1
    obtain ⟨cu1, cu2, cu3, cu4, cu5, cu6⟩ := hM.1
    have n1 := nM_le ho
    have lw := ho.2.2.2.2.1
    refine an o0 (an o0 (an o0 (an (show OB 93 8 from ⟨rfl, rfl⟩) ⟨s.1, ⟨Or.inr (Or.inr rfl), cu1, cu2⟩, cu3, cu4, cu5, cu6, fun M2 f2 e0 e1 sp sr => ?_⟩)))
    have key : ∀ i : Nat, i ≤ 120 → ∀ (x acc : Int) (M3 : Mem), x = (i : Int) → acc = ((pbN (fun k => decide (s.1 7 k < (i : Int)) && psB s.1 t (s.1 10 0) k) (nM s.1) : Nat) : Int) → (∀ u v, (u < 93 ∨ 116 < u) → M3 u v = M u v) → SP M3 93 s.1 → SitRel M3 93 s.1 t (run s.1 t i) → J 32 [some (vR 0), some (vI t), some (vI acc), some (vI x)] [] M3 := by
      refine dn ?_ ?_
      · intro x acc M3 hx ha f3 sp3 sr3
        have h3 : Cls M3 s := hM.kept (fun u v hu => f3 u v (by omega))
        refine R_X10_decides_32 R (bt (show (120 : Int) ≤ x by omega) (R_X10_decides_64 R (an o0 (use_chr h3 (fun M4 h4 cf4 hc fr4 => an o0 (an (pl_ob h4.pl.1) (an o41 ?_)))))))
        have el : M4 (M4 0 1).toNat 14 = s.1 10 0 := h4.pl.2.1.2.2.2.2.1
        rw [el]
        refine ⟨s.1, hc.1, ⟨rfl, by omega, by omega⟩, ?_⟩
        rw [chr_ps hc (by omega) (by omega)]
        have a1 := psN_lt ho (-1) (s.1 10 0)
        have a2 := psN_lt ho t (s.1 10 0)
        have eacc : acc = ((psN s.1 t (s.1 10 0) : Nat) : Int) := by
          rw [ha]
          have : pbN (fun k => decide (s.1 7 k < ((120 : Nat) : Int)) && psB s.1 t (s.1 10 0) k) (nM s.1) = psN s.1 t (s.1 10 0) := pbN_cong (fun k hk' => by
            have := (ho.2.2.2.2.2.2.2.2 k hk').1
            rw [decide_eq_true (show s.1 7 k < ((120 : Nat) : Int) by omega), Bool.true_and])
          rw [this]
        refine c_yes ea h4 (fun u v hu => (cf4 u v hu).trans (f3 u v (by omega))) ?_ hQ
        rw [eacc, xorI_n (by omega) (by omega)]
      · intro i hi ih x acc M3 hx ha f3 sp3 sr3
        refine R_X10_decides_32 R (bf (show ¬ (120 : Int) ≤ x by omega) (an o0 (an (show OB 93 8 from ⟨rfl, rfl⟩) ⟨s.1, t, run s.1 t i, sp3, sr3, runT_ok cu5 cu6 _ _ i (by omega), ⟨by omega, by omega⟩, fun M4 f4 sr4 so4 ld4 => an o0 (an (show OB 93 8 from ⟨rfl, rfl⟩) ?_)⟩)))
        have est : stp s.1 t x x (run s.1 t i) = run s.1 t (i + 1) := by rw [hx]; unfold run; rw [runT]
        rw [est] at sr4 ld4
        have sp4 : SP M4 93 s.1 := sp3.kept (fun u v hu => f4 u v (by omega))
        refine ⟨s.1, fun p => ldF s.1 (run s.1 t (i + 1)) (p : Int), sp4, fun p hp' => ⟨ld4 p hp', (ld_bd ho _ _).1, (ld_bd ho _ _).2⟩, ih _ _ M4 (wn hx (by omega)) ?_ (fun u v hu => (f4 u v (by omega)).trans (f3 u v hu)) sp4 sr4⟩
        have l1 := pbN_lt (fun k => decide (s.1 7 k < (i : Int)) && psB s.1 t (s.1 10 0) k) (nM s.1)
        have l2 := pbN_lt (fun k => decide (s.1 7 k = x ∧ cntF s.1 (fun p => ldF s.1 (run s.1 t (i + 1)) (p : Int)) (s.1 9 k) (s.1 10 0) < cntF s.1 (fun p => ldF s.1 (run s.1 t (i + 1)) (p : Int)) (s.1 8 k) (s.1 10 0))) (nM s.1)
        have p8 : 2 ^ nM s.1 ≤ 2 ^ 8 := Nat.pow_le_pow_right (by decide) n1.1
        rw [ha, orI_n (by omega) (by omega), pbN_or]
        have ec : ∀ k, k < nM s.1 → ((decide (s.1 7 k < (i : Int)) && psB s.1 t (s.1 10 0) k) || decide (s.1 7 k = x ∧ cntF s.1 (fun p => ldF s.1 (run s.1 t (i + 1)) (p : Int)) (s.1 9 k) (s.1 10 0) < cntF s.1 (fun p => ldF s.1 (run s.1 t (i + 1)) (p : Int)) (s.1 8 k) (s.1 10 0))) = (decide (s.1 7 k < ((i + 1 : Nat) : Int)) && psB s.1 t (s.1 10 0) k) := by
          intro k hk'
          by_cases q : s.1 7 k = x
          · have e7 : (s.1 7 k).toNat + 1 = i + 1 := by omega
            have ep : psB s.1 t (s.1 10 0) k = decide (cntF s.1 (fun p => ldF s.1 (run s.1 t (i + 1)) (p : Int)) (s.1 9 k) (s.1 10 0) < cntF s.1 (fun p => ldF s.1 (run s.1 t (i + 1)) (p : Int)) (s.1 8 k) (s.1 10 0)) := by unfold psB; rw [e7]
            rw [decide_eq_false (show ¬ s.1 7 k < (i : Int) by omega), decide_eq_true (show s.1 7 k < ((i + 1 : Nat) : Int) by omega), Bool.false_and, Bool.false_or, Bool.true_and, ep]
            by_cases q2 : cntF s.1 (fun p => ldF s.1 (run s.1 t (i + 1)) (p : Int)) (s.1 9 k) (s.1 10 0) < cntF s.1 (fun p => ldF s.1 (run s.1 t (i + 1)) (p : Int)) (s.1 8 k) (s.1 10 0)
            · rw [decide_eq_true q2, decide_eq_true ⟨q, q2⟩]
            · rw [decide_eq_false q2, decide_eq_false (fun z => q2 z.2)]
          · rw [decide_eq_false (show ¬ (s.1 7 k = x ∧ cntF s.1 (fun p => ldF s.1 (run s.1 t (i + 1)) (p : Int)) (s.1 9 k) (s.1 10 0) < cntF s.1 (fun p => ldF s.1 (run s.1 t (i + 1)) (p : Int)) (s.1 8 k) (s.1 10 0)) from fun z => q z.1), Bool.or_false]
            by_cases q3 : s.1 7 k < (i : Int)
            · rw [decide_eq_true q3, decide_eq_true (show s.1 7 k < ((i + 1 : Nat) : Int) by omega)]
            · rw [decide_eq_false q3, decide_eq_false (show ¬ s.1 7 k < ((i + 1 : Nat) : Int) by omega)]
        rw [pbN_cong ec]
    refine key 0 (Nat.zero_le _) _ _ M2 rfl ?_ (fun u v hu => f2 u v (by omega)) sp sr
    have : pbN (fun k => decide (s.1 7 k < ((0 : Nat) : Int)) && psB s.1 t (s.1 10 0) k) (nM s.1) = pbN (fun _ => false) (nM s.1) := pbN_cong (fun k hk' => by
      have := (ho.2.2.2.2.2.2.2.2 k hk').1
      rw [decide_eq_false (show ¬ s.1 7 k < ((0 : Nat) : Int) by omega), Bool.false_and])
    rw [this]
    have z : ∀ n, pbN (fun _ => false) n = 0 := fun n => by
      induction n with
      | zero => rfl
      | succ n ih => rw [pbN, ih, if_neg (by decide)]
    rw [z]
    rfl
  · exact h.elim
theorem P_X10_speech {J : JT} {Q : QT} (R : R_X10_speech J Q) {as : List Vl} {M : Mem} (h : F_X10_speech as M Q) : (enL as).length ≤ 5 ∧ J 0 (padL 5 (enL as)) [] M := by
  unfold F_X10_speech at h
  split at h
  · rename_i k m l
    obtain ⟨rfl, s, hM, hQ⟩ := h
    have hpl := hM.pl
    have hk := hpl.1
    have hp := hpl.2.1
    have ho := hpl.2.2
    have no1 : ¬ (0 ≤ m ∧ m < s.1 10 4) → an_speech m l s = nay s 1 := fun c => if_pos c
    have no2 : (0 ≤ m ∧ m < s.1 10 4) → ¬ (1 ≤ l ∧ l ≤ 60) → an_speech m l s = nay s 2 := fun c1 c2 => (if_neg (fun z => z c1)).trans (if_pos c2)
    have ea : (0 ≤ m ∧ m < s.1 10 4) → (1 ≤ l ∧ l ≤ 60) → an_speech m l s = _ := fun c1 c2 => (if_neg (fun z => z c1)).trans (if_neg (fun z => z c2))
    have atB : (0 ≤ m ∧ m < s.1 10 4) → ∀ b : Int, (b = 1 ∧ (1 ≤ l ∧ l ≤ 60)) ∨ (b = 0 ∧ ¬ (1 ≤ l ∧ l ≤ 60)) → J 29 [some (vR 0), some (vI m), some (vI l), none, none] [vI b, vR 0] M := by
      intro c1 b hb
      rcases hb with ⟨rfl, c2⟩ | ⟨rfl, c2⟩
      · refine R_X10_speech_29 R (an o0 ⟨rfl, fun _ => ?_, fun z => absurd z (by decide)⟩)
        have ea := ea c1 c2
        obtain ⟨cu1, cu2, cu3, cu4, cu5, cu6⟩ := hM.1
        have n1 := nM_le ho
        have mm := (hp.2.2.2.2.2.2.2.2 m.toNat (by omega)).1
        have ob := (ho.2.2.2.2.2.2.2.2 m.toNat (by omega)).1
        obtain ⟨F, hF⟩ : ∃ F : Nat, s.1 7 m.toNat = (F : Int) := ⟨(s.1 7 m.toNat).toNat, by omega⟩
        obtain ⟨lj, hlj⟩ : ∃ j : Nat, l = (j : Int) := ⟨l.toNat, by omega⟩
        refine an o0 (an (pl_ob hk) (an (ak_of (pl_8 hk) c1.1 (by omega)) ?_))
        rw [show M ((M 0 1).toNat + 8) m.toNat = (F : Int) from mm.trans hF]
        refine an o0 ⟨s.1, ⟨rfl, by omega, by omega⟩, hM.1, fun M2 f2 sp sr => ?_⟩
        rw [Int.toNat_natCast, ← pz_0] at sr
        have fin : ∀ (M4 : Mem), (∀ u v, (u < 69 ∨ 92 < u) → M4 u v = M u v) → ∀ r : Int, (r = 0 ∨ r = 1) → r = (if spB s.1 m.toNat l = true then 1 else 0) → (r = 0 ∨ r = 1) ∧ Q (.inl (some (vI r))) M4 := fun M4 f4 r hr hv => ⟨hr, c_yes ea (hM.kept (fun u v hu => f4 u v (by omega))) (fun u v hu => f4 u v (by omega)) hv hQ⟩
        have key : ∀ i, i ≤ lj → ∀ (x : Int) (M3 : Mem), x = (i : Int) → (∀ u v, (u < 69 ∨ 92 < u) → M3 u v = M u v) → SP M3 69 s.1 → SitRel M3 69 s.1 (-1) (pzS s.1 F i) → J 50 [some (vR 0), some (vI m), some (vI l), some (vI (F : Int)), some (vI x)] [] M3 := by
          refine dn ?_ ?_
          · intro x M3 hx f3 sp3 sr3
            have ef : f_add (F : Int) l = ((F + lj : Nat) : Int) := by rw [hlj]; exact w1 (by omega) (by omega) (by omega)
            refine R_X10_speech_50 R (bt (show l ≤ x by omega) (R_X10_speech_74 R (an o0 (an o69 ?_))))
            show nf G_X8_goThrough [.inr (.inl 69), .inl (f_add (F : Int) l), .inl (F : Int)] M3 _
            rw [ef]
            clear ef
            refine ⟨s.1, -1, pzS s.1 F lj, sp3, sr3, runT_ok cu5 cu6 _ _ _ (by omega), ⟨by omega, by omega⟩, fun M4 f4 sr4 so4 ld4 => ?_⟩
            rw [pz_e, ← sp_e lj hF, ← hlj] at ld4
            have f5 : ∀ u v, (u < 69 ∨ 92 < u) → M4 u v = M u v := fun u v hu => (f4 u v (by omega)).trans (f3 u v hu)
            have h4 : Cls M4 s := hM.kept (fun u v hu => f5 u v (by omega))
            refine an o0 (an o0 (an (pl_ob h4.pl.1) (an o69 ?_)))
            rw [show M4 (M4 0 1).toNat 14 = s.1 10 0 from h4.pl.2.1.2.2.2.2.1]
            refine ⟨s.1, fun p => ldF s.1 (spR s.1 m.toNat l) (p : Int), sp3.kept (fun u v hu => f4 u v (by omega)), fun p hp' => ⟨ld4 p hp', (ld_bd ho _ _).1, (ld_bd ho _ _).2⟩, c1, br (fun d => ?_) (fun d => ?_)⟩
            · exact fin M4 f5 1 (Or.inr rfl) (by rw [if_pos (show spB s.1 m.toNat l = true from decide_eq_true d)])
            · exact fin M4 f5 0 (Or.inl rfl) (by rw [if_neg (show ¬ spB s.1 m.toNat l = true from fun z => d (of_decide_eq_true z))])
          · intro i hi ih x M3 hx f3 sp3 sr3
            have ef : f_add (F : Int) x = ((F + i : Nat) : Int) := by rw [hx]; exact w1 (by omega) (by omega) (by omega)
            refine R_X10_speech_50 R (bf (show ¬ l ≤ x by omega) (an o0 (an o69 ?_)))
            show nf G_X8_goThrough [.inr (.inl 69), .inl (f_add (F : Int) x), .inl (-1)] M3 _
            rw [ef]
            clear ef
            refine ⟨s.1, -1, pzS s.1 F i, sp3, sr3, runT_ok cu5 cu6 _ _ _ (by omega), ⟨by omega, by omega⟩, fun M4 f4 sr4 so4 ld4 => ih _ M4 (wn hx (by omega)) (fun u v hu => (f4 u v (by omega)).trans (f3 u v hu)) (sp3.kept (fun u v hu => f4 u v (by omega))) ?_⟩
            rw [pz_s] at sr4
            exact sr4
        exact key 0 (Nat.zero_le _) _ M2 rfl (fun u v hu => f2 u v (by omega)) sp sr
      · exact R_X10_speech_29 R (an o0 ⟨rfl, fun z => absurd rfl z, fun _ => c_no (Q := Q) hM 2 (by decide) (no2 c1 c2) (CF.rf M) hQ⟩)
    exact ⟨Nat.le_of_ble_eq_true rfl, R_X10_speech_0 R (an o0 (an (pl_ob hk) ⟨s.1, hpl, br (fun c1 => an o0 ⟨rfl, fun _ => br (fun (g2 : l < 1) => R_X10_speech_28 R (atB c1 0 (Or.inr ⟨rfl, by omega⟩))) (fun (g2 : ¬ (l < 1)) => br (fun (g1 : 60 < l) => R_X10_speech_28 R (atB c1 0 (Or.inr ⟨rfl, by omega⟩))) (fun (g1 : ¬ (60 < l)) => atB c1 1 (Or.inl ⟨rfl, by omega⟩))), fun z => absurd z (by decide)⟩) (fun c1 => an o0 ⟨rfl, fun z => absurd rfl z, fun _ => c_no (Q := Q) hM 1 (by decide) (no1 c1) (CF.rf M) hQ⟩)⟩))⟩
  · exact h.elim
theorem P_X10_tired {J : JT} {Q : QT} (R : R_X10_tired J Q) {as : List Vl} {M : Mem} (h : F_X10_tired as M Q) : (enL as).length ≤ 5 ∧ J 0 (padL 5 (enL as)) [] M := by
  unfold F_X10_tired at h
  split at h
  · rename_i k m
    obtain ⟨rfl, s, hM, hQ⟩ := h
    have hpl := hM.pl
    have hk := hpl.1
    have hp := hpl.2.1
    have ho := hpl.2.2
    have no1 : ¬ (0 ≤ m ∧ m < s.1 10 4) → an_tired m s = nay s 1 := fun c => if_pos c
    have ea : (0 ≤ m ∧ m < s.1 10 4) → an_tired m s = _ := fun c1 => if_neg (fun z => z c1)
    refine ⟨Nat.le_of_ble_eq_true rfl, R_X10_tired_0 R (an o0 (an (pl_ob hk) ⟨s.1, hpl, br (fun c1 => an o0 ⟨rfl, fun _ => ?_, fun z => absurd z (by decide)⟩) (fun c1 => an o0 ⟨rfl, fun z => absurd rfl z, fun _ => c_no (Q := Q) hM 1 (by decide) (no1 c1) (CF.rf M) hQ⟩)⟩))⟩
    have ea := ea c1
    obtain ⟨cu1, cu2, cu3, cu4, cu5, cu6⟩ := hM.1
    have n1 := nM_le ho
    have lw := ho.2.2.2.2.1
    have ob := (ho.2.2.2.2.2.2.2.2 m.toNat (by omega)).1
    obtain ⟨F, hF⟩ : ∃ F : Nat, s.1 7 m.toNat = (F : Int) := ⟨(s.1 7 m.toNat).toNat, by omega⟩
    refine an o0 (use_chr hM (fun M1 h1 cf1 hc fr1 => an o0 (an (pl_ob h1.pl.1) (an o41 ?_))))
    have hk1 := h1.pl.1
    rw [show M1 (M1 0 1).toNat 14 = s.1 10 0 from h1.pl.2.1.2.2.2.2.1]
    have le : (((s.1 10 0).toNat : Nat) : Int) = s.1 10 0 := by omega
    have a0 := hc.2.2.2.1 m.toNat (s.1 10 0).toNat 0 (by omega) (by omega) (by decide)
    have a1 := hc.2.2.2.1 m.toNat (s.1 10 0).toNat 1 (by omega) (by omega) (by decide)
    rw [le] at a0 a1
    have pe : spB s.1 m.toNat 0 = decide (cnM s.1 m.toNat (s.1 10 0) 1 < cnM s.1 m.toNat (s.1 10 0) 0) := sp_0 s.1 m.toNat ob.1
    have bool : ∀ (b c : Bool) (x y : Int), x = (if b = true then 1 else 0) → y = (if c = true then 1 else 0) → (x = y ↔ b = c) := by
      intro b c x y hx hy
      rw [hx, hy]
      cases b <;> cases c <;> simp
    have hQ' : ∀ (M4 : Mem) (v : Int), Cls M4 s → CF M M4 → v = tiF s.1 m.toNat 60 → Q (.inl (some (vI v))) M4 := fun M4 v h4 cf hv => c_yes ea h4 cf hv hQ
    generalize hT : tiF s.1 m.toNat 60 = T at hQ'
    have go : ∀ us : Int, us = (if spB s.1 m.toNat 0 = true then 1 else 0) → ∀ i : Nat, i ≤ 60 → ∀ (x : Int) (M3 : Mem), x = ((i + 1 : Nat) : Int) → (∀ u v, (u < 69 ∨ 116 < u) → M3 u v = M1 u v) → SP M3 69 s.1 → SitRel M3 69 s.1 (-1) (pzS s.1 F i) → T = tiF s.1 m.toNat (60 - i) → J 46 [some (vR 0), some (vI m), some (vI us), some (vI (F : Int)), some (vI x)] [] M3 := by
      intro us hus
      refine dn ?_ ?_
      · intro x M3 hx f3 sp3 sr3 ht
        exact R_X10_tired_46 R (bt (show (60 : Int) < x by omega) (R_X10_tired_118 R (hQ' M3 (-1) (h1.kept (fun u v hu => f3 u v (by omega))) (fun u v hu => (f3 u v (by omega)).trans (cf1 u v hu)) ht.symm)))
      · intro i hi ih x M3 hx f3 sp3 sr3 ht
        have et : 60 - i = (60 - (i + 1)) + 1 := by omega
        have el : 60 - (60 - (i + 1)) = i + 1 := by omega
        rw [et, tiF, el, ← hx] at ht
        have ef : f_sub (f_add (F : Int) x) 1 = ((F + i : Nat) : Int) := by
          unfold f_sub f_add
          rw [hx, w1 (x := (F : Int) + ((i + 1 : Nat) : Int)) (y := (F : Int) + ((i + 1 : Nat) : Int)) (by omega) (by omega) rfl]
          exact w1 (by omega) (by omega) (by omega)
        have ef2 : f_add (F : Int) x = ((F + (i + 1) : Nat) : Int) := by rw [hx]; exact w1 (by omega) (by omega) (by omega)
        refine R_X10_tired_46 R (bf (show ¬ (60 : Int) < x by clear ef ef2; omega) (an o0 (an o69 ?_)))
        show nf G_X8_goThrough [.inr (.inl 69), .inl (f_sub (f_add (F : Int) x) 1), .inl (-1)] M3 _
        rw [ef]
        clear ef
        refine ⟨s.1, -1, pzS s.1 F i, sp3, sr3, runT_ok cu5 cu6 _ _ _ (by clear ef2; omega), by clear ef2; exact ⟨by omega, by omega⟩, fun M4 f4 sr4 so4 ld4 => ?_⟩
        rw [pz_s] at sr4 so4
        have sp4 : SP M4 69 s.1 := sp3.kept (fun u v hu => f4 u v (by omega))
        refine an o0 (an o0 (an (show OB 93 8 from ⟨rfl, rfl⟩) ⟨s.1, -1, pzS s.1 F (i + 1), sp4, sr4, ⟨Or.inr (Or.inr rfl), by decide⟩, fun M5 f5 sp5 sr5 => an o0 (an (show OB 93 8 from ⟨rfl, rfl⟩) ?_)⟩))
        show nf G_X8_goThrough [.inr (.inl 93), .inl (f_add (F : Int) x), .inl (F : Int)] M5 _
        rw [ef2]
        clear ef2
        refine ⟨s.1, -1, pzS s.1 F (i + 1), sp5, sr5, so4, ⟨by omega, by omega⟩, fun M6 f6 sr6 so6 ld6 => ?_⟩
        rw [pz_e, ← sp_e (i + 1) hF, ← hx] at ld6
        have f7 : ∀ u v, (u < 69 ∨ 116 < u) → M6 u v = M1 u v := fun u v hu => (f6 u v (by omega)).trans ((f5 u v (by omega)).trans ((f4 u v (by omega)).trans (f3 u v hu)))
        have h6 : Cls M6 s := h1.kept (fun u v hu => f7 u v (by omega))
        have cf6 : CF M M6 := fun u v hu => (f7 u v (by omega)).trans (cf1 u v hu)
        have sp6 : SP M6 93 s.1 := sp5.kept (fun u v hu => f6 u v (by omega))
        have sp9 : SP M6 69 s.1 := sp4.kept2 (fun u v hu => (f6 u v (by omega)).trans (f5 u v (by omega)))
        have sr9 : SitRel M6 69 s.1 (-1) (pzS s.1 F (i + 1)) := ⟨fun t ht => by rw [f6 _ _ (by omega), f6 _ _ (by omega), f6 _ _ (by omega), f5 _ _ (by omega), f5 _ _ (by omega), f5 _ _ (by omega)]; exact sr4.1 t ht, fun p hp' => by rw [f6 _ _ (by omega), f6 _ _ (by omega), f5 _ _ (by omega), f5 _ _ (by omega)]; exact sr4.2 p hp'⟩
        refine an o0 (an o0 (an (pl_ob h6.pl.1) (an (show OB 93 8 from ⟨rfl, rfl⟩) ?_)))
        rw [show M6 (M6 0 1).toNat 14 = s.1 10 0 from h6.pl.2.1.2.2.2.2.1]
        have fin : ∀ r : Int, r = (if spB s.1 m.toNat x = true then 1 else 0) → (r = us → J 112 [some (vR 0), some (vI m), some (vI us), some (vI (F : Int)), some (vI x)] [] M6) ∧ (¬ r = us → Q (.inl (some (vI x))) M6) := by
          intro r hr
          have bb := bool _ _ _ _ hr hus
          refine ⟨fun g => R_X10_tired_112 R (ih _ M6 (wn hx (by omega)) f7 sp9 sr9 ?_), fun g => hQ' M6 x h6 cf6 ?_⟩
          · rw [if_pos (bb.mp g)] at ht; exact ht
          · rw [if_neg (fun z => g (bb.mpr z))] at ht; exact ht.symm
        refine ⟨s.1, fun p => ldF s.1 (spR s.1 m.toNat x) (p : Int), sp6, fun p hp' => ⟨ld6 p hp', (ld_bd ho _ _).1, (ld_bd ho _ _).2⟩, c1, br (fun d => ?_) (fun d => ?_)⟩
        · exact fin 1 (by rw [if_pos (show spB s.1 m.toNat x = true from decide_eq_true d)])
        · exact fin 0 (by rw [if_neg (show ¬ spB s.1 m.toNat x = true from fun z => d (of_decide_eq_true z))])
    refine ⟨⟨rfl, c1.1, by omega, by omega, by omega⟩, ?_⟩
    rw [a0, a1]
    have rest : ∀ us : Int, us = (if spB s.1 m.toNat 0 = true then 1 else 0) → wpl J Q [tx_is 2, tx_al 0, tx_gm 10 1, tx_gr 6 8, tx_il 1, tx_ia, tx_is 3, tx_al 0, tx_il 3, tx_callv 10 (nf G_X10_pauseFrom) 1, tx_ic 1, tx_is 4, tx_fall 46] [some (vR 0), some (vI m), none, none, none] [vI us] M1 := by
      intro us hus
      have mm := (h1.pl.2.1.2.2.2.2.2.2.2.2 m.toNat (by omega)).1
      refine an o0 (an (pl_ob hk1) (an (ak_of (pl_8 hk1) c1.1 (by omega)) ?_))
      rw [show M1 ((M1 0 1).toNat + 8) m.toNat = (F : Int) from mm.trans hF]
      refine an o0 ⟨s.1, ⟨rfl, by omega, by omega⟩, h1.1, fun M2 f2 sp sr => ?_⟩
      rw [Int.toNat_natCast, ← pz_0] at sr
      exact go us hus 0 (Nat.zero_le _) _ M2 rfl (fun u v hu => f2 u v (by omega)) sp sr hT.symm
    exact br (fun d => rest 1 (by rw [pe, decide_eq_true d, if_pos rfl])) (fun d => rest 0 (by rw [pe, decide_eq_false d, if_neg (by decide)]))

  · exact h.elim