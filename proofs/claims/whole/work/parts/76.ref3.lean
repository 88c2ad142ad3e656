
theorem pbN_bit (c : Nat → Bool) : ∀ n k, k < n → (pbN c n).testBit k = c k
  | 0, k, h => by omega
  | n + 1, k, h => by
    have lt := pbN_lt c n
    rw [pbN]
    by_cases hc : c n = true
    · rw [if_pos hc, Nat.add_comm]
      obtain ⟨h1, h2⟩ := hi_bits lt
      by_cases e : k = n
      · subst e; rw [h1, hc]
      · rw [h2 k (by omega)]; exact pbN_bit c n k (by omega)
    · rw [if_neg hc, Nat.add_zero]
      by_cases e : k = n
      · subst e
        rw [Nat.testBit_lt_two_pow lt]
        exact (Bool.eq_false_iff.mpr hc).symm
      · exact pbN_bit c n k (by omega)
theorem ps_eq {M3 Ab : Mem} {wo law : Int} (h0 : 0 ≤ law) (h2 : law < 3) (g4 : ∀ k l s : Nat, k < nM Ab → l < 3 → s < 2 → M3 (300 + 4 * k + l) s = cntF Ab (fun p => ldF Ab (run Ab wo ((Ab 7 k).toNat + 1)) (p : Int)) (if s = 0 then Ab 8 k else Ab 9 k) (l : Int)) : pbN (fun i => decide (M3 (300 + 4 * i + law.toNat) 1 < M3 (300 + 4 * i + law.toNat) 0)) (nM Ab) = psN Ab wo law := by
  refine pbN_cong (fun i hi => ?_)
  have e : ((law.toNat : Nat) : Int) = law := by omega
  have a0 := g4 i law.toNat 0 hi (by omega) (by decide)
  have a1 := g4 i law.toNat 1 hi (by omega) (by decide)
  rw [e] at a0 a1
  rw [a0, a1]
  rfl
theorem psN_lt {Ab : Mem} (ho : HallOK Ab) (wo law : Int) : psN Ab wo law < 256 := by
  have h1 := pbN_lt (psB Ab wo law) (nM Ab)
  have h2 : 2 ^ nM Ab ≤ 2 ^ 8 := Nat.pow_le_pow_right (by decide) (nM_le ho).1
  unfold psN
  omega

def G_X11_passes : FN := fun as M Q => match as with
  | [.inr (.inl k), .inl law] => k = 159 ∧ mS cd1 (an_passes law) M Q
  | _ => False
def G_X11_unlike : FN := fun as M Q => match as with
  | [.inr (.inl k), .inl law, .inl ot] => k = 159 ∧ mS cd1 (an_unlike law ot) M Q
  | _ => False
def G_X11_motion : FN := fun as M Q => match as with
  | [.inr (.inl k), .inl m, .inl law, .inl w] => k = 159 ∧ mS cd2 (an_motion m law w) M Q
  | _ => False
def G_X11_decides : FN := fun as M Q => match as with
  | [.inr (.inl k), .inl t] => k = 159 ∧ mS cd1 (an_decides t) M Q
  | _ => False
def G_X11_power : FN := fun as M Q => match as with
  | [.inr (.inl k), .inl p] => k = 159 ∧ mS cd1 (an_power p) M Q
  | _ => False
def G_X11_wins : FN := fun as M Q => match as with
  | [.inr (.inl k), .inl x] => k = 159 ∧ mS cd1 (an_wins x) M Q
  | _ => False
def G_X11_sums : FN := fun as M Q => match as with
  | [.inr (.inl k), .inl m, .inl w] => k = 159 ∧ mS cd1 (an_sums m w) M Q
  | _ => False
def b_X11_passes_0 : List AT := [tx_al 0, tx_ic 0, tx_pi 11 0, tx_al 0, tx_il 1, tx_call (nf G_X11_isLaw) 1, tx_ifz r_ne 17, tx_ic 1, tx_fall 18]
def b_X11_passes_17 : List AT := [tx_ic 0, tx_fall 18]
def b_X11_passes_18 : List AT := [tx_ic 1, tx_ic 1, tx_callv 11 (nf G_X11_bad) 3, tx_ifz r_eq 28, tx_ic 0, tx_ri]
def b_X11_passes_28 : List AT := [tx_al 0, tx_callv 11 (nf G_X11_goesAll) 0, tx_al 0, tx_il 1, tx_callv 11 (nf G_X11_passesBy) 1, tx_ri]
def R_X11_passes (J : JT) (Q : QT) : Prop := (∀ ls st M, wpl J Q b_X11_passes_0 ls st M → J 0 ls st M) ∧ (∀ ls st M, wpl J Q b_X11_passes_17 ls st M → J 17 ls st M) ∧ (∀ ls st M, wpl J Q b_X11_passes_18 ls st M → J 18 ls st M) ∧ (∀ ls st M, wpl J Q b_X11_passes_28 ls st M → J 28 ls st M)
theorem R_X11_passes_0 {J : JT} {Q : QT} (R : R_X11_passes J Q) {ls : Ls} {st : St} {M : Mem} (h : wpl J Q b_X11_passes_0 ls st M) : J 0 ls st M := R.1 ls st M h
theorem R_X11_passes_17 {J : JT} {Q : QT} (R : R_X11_passes J Q) {ls : Ls} {st : St} {M : Mem} (h : wpl J Q b_X11_passes_17 ls st M) : J 17 ls st M := R.2.1 ls st M h
theorem R_X11_passes_18 {J : JT} {Q : QT} (R : R_X11_passes J Q) {ls : Ls} {st : St} {M : Mem} (h : wpl J Q b_X11_passes_18 ls st M) : J 18 ls st M := R.2.2.1 ls st M h
theorem R_X11_passes_28 {J : JT} {Q : QT} (R : R_X11_passes J Q) {ls : Ls} {st : St} {M : Mem} (h : wpl J Q b_X11_passes_28 ls st M) : J 28 ls st M := R.2.2.2 ls st M h
def b_X11_unlike_0 : List AT := [tx_al 0, tx_ic 0, tx_pi 11 0, tx_al 0, tx_il 1, tx_call (nf G_X11_isLaw) 1, tx_ifz r_eq 20, tx_il 2, tx_call (nf G_X11_isLaw) 1, tx_ifz r_ne 24, tx_fall 20]
def b_X11_unlike_20 : List AT := [tx_ic 1, tx_fall 25]
def b_X11_unlike_24 : List AT := [tx_ic 0, tx_fall 25]
def b_X11_unlike_25 : List AT := [tx_ic 1, tx_ic 1, tx_callv 11 (nf G_X11_bad) 3, tx_ifz r_eq 35, tx_ic 0, tx_ri]
def b_X11_unlike_35 : List AT := [tx_al 0, tx_callv 11 (nf G_X11_goesAll) 0, tx_al 0, tx_il 1, tx_callv 11 (nf G_X11_passesBy) 1, tx_al 0, tx_il 2, tx_callv 11 (nf G_X11_passesBy) 1, tx_bin xorI, tx_call (nf G_X11_ones) 1, tx_ri]
def R_X11_unlike (J : JT) (Q : QT) : Prop := (∀ ls st M, wpl J Q b_X11_unlike_0 ls st M → J 0 ls st M) ∧ (∀ ls st M, wpl J Q b_X11_unlike_20 ls st M → J 20 ls st M) ∧ (∀ ls st M, wpl J Q b_X11_unlike_24 ls st M → J 24 ls st M) ∧ (∀ ls st M, wpl J Q b_X11_unlike_25 ls st M → J 25 ls st M) ∧ (∀ ls st M, wpl J Q b_X11_unlike_35 ls st M → J 35 ls st M)
theorem R_X11_unlike_0 {J : JT} {Q : QT} (R : R_X11_unlike J Q) {ls : Ls} {st : St} {M : Mem} (h : wpl J Q b_X11_unlike_0 ls st M) : J 0 ls st M := R.1 ls st M h
theorem R_X11_unlike_20 {J : JT} {Q : QT} (R : R_X11_unlike J Q) {ls : Ls} {st : St} {M : Mem} (h : wpl J Q b_X11_unlike_20 ls st M) : J 20 ls st M := R.2.1 ls st M h
theorem R_X11_unlike_24 {J : JT} {Q : QT} (R : R_X11_unlike J Q) {ls : Ls} {st : St} {M : Mem} (h : wpl J Q b_X11_unlike_24 ls st M) : J 24 ls st M := R.2.2.1 ls st M h
theorem R_X11_unlike_25 {J : JT} {Q : QT} (R : R_X11_unlike J Q) {ls : Ls} {st : St} {M : Mem} (h : wpl J Q b_X11_unlike_25 ls st M) : J 25 ls st M := R.2.2.2.1 ls st M h
theorem R_X11_unlike_35 {J : JT} {Q : QT} (R : R_X11_unlike J Q) {ls : Ls} {st : St} {M : Mem} (h : wpl J Q b_X11_unlike_35 ls st M) : J 35 ls st M := R.2.2.2.2 ls st M h
def b_X11_motion_0 : List AT := [tx_al 0, tx_ic 0, tx_pi 11 0, tx_al 0, tx_al 0, tx_il 1, tx_callv 11 (nf G_X11_isMotion) 1, tx_ifz r_ne 18, tx_ic 1, tx_fall 19]
def b_X11_motion_18 : List AT := [tx_ic 0, tx_fall 19]
def b_X11_motion_19 : List AT := [tx_ic 1, tx_ic 0, tx_callv 11 (nf G_X11_bad) 3, tx_ifz r_ne 57, tx_al 0, tx_il 2, tx_call (nf G_X11_isLaw) 1, tx_ifz r_eq 44, tx_il 3, tx_ic 0, tx_ic 2, tx_call (nf G_X11_in) 3, tx_ifz r_ne 48, tx_fall 44]
def b_X11_motion_44 : List AT := [tx_ic 1, tx_fall 49]
def b_X11_motion_48 : List AT := [tx_ic 0, tx_fall 49]
def b_X11_motion_49 : List AT := [tx_ic 2, tx_ic 1, tx_callv 11 (nf G_X11_bad) 3, tx_ifz r_eq 59, tx_fall 57]
def b_X11_motion_57 : List AT := [tx_ic 0, tx_ri]
def b_X11_motion_59 : List AT := [tx_al 0, tx_callv 11 (nf G_X11_goesAll) 0, tx_il 3, tx_ic 2, tx_cmp r_ge 81, tx_al 0, tx_gr 11 139, tx_il 1, tx_aa 6, tx_il 2, tx_aa 5, tx_il 3, tx_ia, tx_fall 90]
def b_X11_motion_81 : List AT := [tx_al 0, tx_il 2, tx_callv 11 (nf G_X11_passesBy) 1, tx_il 1, tx_bin shrI, tx_ic 1, tx_bin andI, tx_fall 90]
def b_X11_motion_90 : List AT := [tx_ri]
def R_X11_motion (J : JT) (Q : QT) : Prop := (∀ ls st M, wpl J Q b_X11_motion_0 ls st M → J 0 ls st M) ∧ (∀ ls st M, wpl J Q b_X11_motion_18 ls st M → J 18 ls st M) ∧ (∀ ls st M, wpl J Q b_X11_motion_19 ls st M → J 19 ls st M) ∧ (∀ ls st M, wpl J Q b_X11_motion_44 ls st M → J 44 ls st M) ∧ (∀ ls st M, wpl J Q b_X11_motion_48 ls st M → J 48 ls st M) ∧ (∀ ls st M, wpl J Q b_X11_motion_49 ls st M → J 49 ls st M) ∧ (∀ ls st M, wpl J Q b_X11_motion_57 ls st M → J 57 ls st M) ∧ (∀ ls st M, wpl J Q b_X11_motion_59 ls st M → J 59 ls st M) ∧ (∀ ls st M, wpl J Q b_X11_motion_81 ls st M → J 81 ls st M) ∧ (∀ ls st M, wpl J Q b_X11_motion_90 ls st M → J 90 ls st M)
theorem R_X11_motion_0 {J : JT} {Q : QT} (R : R_X11_motion J Q) {ls : Ls} {st : St} {M : Mem} (h : wpl J Q b_X11_motion_0 ls st M) : J 0 ls st M := R.1 ls st M h
theorem R_X11_motion_18 {J : JT} {Q : QT} (R : R_X11_motion J Q) {ls : Ls} {st : St} {M : Mem} (h : wpl J Q b_X11_motion_18 ls st M) : J 18 ls st M := R.2.1 ls st M h
theorem R_X11_motion_19 {J : JT} {Q : QT} (R : R_X11_motion J Q) {ls : Ls} {st : St} {M : Mem} (h : wpl J Q b_X11_motion_19 ls st M) : J 19 ls st M := R.2.2.1 ls st M h
theorem R_X11_motion_44 {J : JT} {Q : QT} (R : R_X11_motion J Q) {ls : Ls} {st : St} {M : Mem} (h : wpl J Q b_X11_motion_44 ls st M) : J 44 ls st M := R.2.2.2.1 ls st M h
theorem R_X11_motion_48 {J : JT} {Q : QT} (R : R_X11_motion J Q) {ls : Ls} {st : St} {M : Mem} (h : wpl J Q b_X11_motion_48 ls st M) : J 48 ls st M := R.2.2.2.2.1 ls st M h
theorem R_X11_motion_49 {J : JT} {Q : QT} (R : R_X11_motion J Q) {ls : Ls} {st : St} {M : Mem} (h : wpl J Q b_X11_motion_49 ls st M) : J 49 ls st M := R.2.2.2.2.2.1 ls st M h
theorem R_X11_motion_57 {J : JT} {Q : QT} (R : R_X11_motion J Q) {ls : Ls} {st : St} {M : Mem} (h : wpl J Q b_X11_motion_57 ls st M) : J 57 ls st M := R.2.2.2.2.2.2.1 ls st M h
theorem R_X11_motion_59 {J : JT} {Q : QT} (R : R_X11_motion J Q) {ls : Ls} {st : St} {M : Mem} (h : wpl J Q b_X11_motion_59 ls st M) : J 59 ls st M := R.2.2.2.2.2.2.2.1 ls st M h
theorem R_X11_motion_81 {J : JT} {Q : QT} (R : R_X11_motion J Q) {ls : Ls} {st : St} {M : Mem} (h : wpl J Q b_X11_motion_81 ls st M) : J 81 ls st M := R.2.2.2.2.2.2.2.2.1 ls st M h
theorem R_X11_motion_90 {J : JT} {Q : QT} (R : R_X11_motion J Q) {ls : Ls} {st : St} {M : Mem} (h : wpl J Q b_X11_motion_90 ls st M) : J 90 ls st M := R.2.2.2.2.2.2.2.2.2 ls st M h
def b_X11_decides_0 : List AT := [tx_al 0, tx_ic 0, tx_pi 11 0, tx_al 0, tx_al 0, tx_il 1, tx_callv 11 (nf G_X11_isThing) 1, tx_ifz r_ne 18, tx_ic 1, tx_fall 19]
def b_X11_decides_18 : List AT := [tx_ic 0, tx_fall 19]
def b_X11_decides_19 : List AT := [tx_ic 1, tx_ic 0, tx_callv 11 (nf G_X11_bad) 3, tx_ifz r_eq 29, tx_ic 0, tx_ri]
def b_X11_decides_29 : List AT := tx_al 0 :: tx_callv 11 (nf G_X11_goesAll) 0 :: tx_al 0 :: tx_al 0 :: tx_gr 11 4 :: tx_ic 4 :: tx_ia :: tx_callv 11 (nf G_X11_passesBy) 1 :: tx_is 2 :: tx_al 0 :: tx_il 1 :: tx_pi 11 35 :: tx_al 0 :: tx_callv 11 (nf G_X11_goesAll) 0 :: tx_al 0 :: tx_ic (-1) :: tx_pi 11 35 :: tx_il 2 :: tx_al 0 :: tx_al 0 :: tx_gr 11 4 :: tx_ic 4 :: tx_ia :: tx_callv 11 (nf G_X11_passesBy) 1 :: tx_bin xorI :: tx_ri :: []
def R_X11_decides (J : JT) (Q : QT) : Prop := (∀ ls st M, wpl J Q b_X11_decides_0 ls st M → J 0 ls st M) ∧ (∀ ls st M, wpl J Q b_X11_decides_18 ls st M → J 18 ls st M) ∧ (∀ ls st M, wpl J Q b_X11_decides_19 ls st M → J 19 ls st M) ∧ (∀ ls st M, wpl J Q b_X11_decides_29 ls st M → J 29 ls st M)
theorem R_X11_decides_0 {J : JT} {Q : QT} (R : R_X11_decides J Q) {ls : Ls} {st : St} {M : Mem} (h : wpl J Q b_X11_decides_0 ls st M) : J 0 ls st M := R.1 ls st M h
theorem R_X11_decides_18 {J : JT} {Q : QT} (R : R_X11_decides J Q) {ls : Ls} {st : St} {M : Mem} (h : wpl J Q b_X11_decides_18 ls st M) : J 18 ls st M := R.2.1 ls st M h
theorem R_X11_decides_19 {J : JT} {Q : QT} (R : R_X11_decides J Q) {ls : Ls} {st : St} {M : Mem} (h : wpl J Q b_X11_decides_19 ls st M) : J 19 ls st M := R.2.2.1 ls st M h
theorem R_X11_decides_29 {J : JT} {Q : QT} (R : R_X11_decides J Q) {ls : Ls} {st : St} {M : Mem} (h : wpl J Q b_X11_decides_29 ls st M) : J 29 ls st M := R.2.2.2 ls st M h
def b_X11_power_0 : List AT := [tx_al 0, tx_ic 0, tx_pi 11 0, tx_al 0, tx_al 0, tx_il 1, tx_callv 11 (nf G_X11_isPerson) 1, tx_ifz r_ne 18, tx_ic 1, tx_fall 19]
def b_X11_power_18 : List AT := [tx_ic 0, tx_fall 19]
def b_X11_power_19 : List AT := [tx_ic 1, tx_ic 0, tx_callv 11 (nf G_X11_bad) 3, tx_ifz r_eq 29, tx_ic 0, tx_ri]
def b_X11_power_29 : List AT := [tx_al 0, tx_il 1, tx_callv 11 (nf G_X11_powerOf) 1, tx_ri]
def R_X11_power (J : JT) (Q : QT) : Prop := (∀ ls st M, wpl J Q b_X11_power_0 ls st M → J 0 ls st M) ∧ (∀ ls st M, wpl J Q b_X11_power_18 ls st M → J 18 ls st M) ∧ (∀ ls st M, wpl J Q b_X11_power_19 ls st M → J 19 ls st M) ∧ (∀ ls st M, wpl J Q b_X11_power_29 ls st M → J 29 ls st M)
theorem R_X11_power_0 {J : JT} {Q : QT} (R : R_X11_power J Q) {ls : Ls} {st : St} {M : Mem} (h : wpl J Q b_X11_power_0 ls st M) : J 0 ls st M := R.1 ls st M h
theorem R_X11_power_18 {J : JT} {Q : QT} (R : R_X11_power J Q) {ls : Ls} {st : St} {M : Mem} (h : wpl J Q b_X11_power_18 ls st M) : J 18 ls st M := R.2.1 ls st M h
theorem R_X11_power_19 {J : JT} {Q : QT} (R : R_X11_power J Q) {ls : Ls} {st : St} {M : Mem} (h : wpl J Q b_X11_power_19 ls st M) : J 19 ls st M := R.2.2.1 ls st M h
theorem R_X11_power_29 {J : JT} {Q : QT} (R : R_X11_power J Q) {ls : Ls} {st : St} {M : Mem} (h : wpl J Q b_X11_power_29 ls st M) : J 29 ls st M := R.2.2.2 ls st M h
def b_X11_wins_0 : List AT := [tx_al 0, tx_ic 0, tx_pi 11 0, tx_al 0, tx_il 1, tx_ic 0, tx_ic 15, tx_call (nf G_X11_in) 3, tx_ifz r_ne 20, tx_ic 1, tx_fall 21]
def b_X11_wins_20 : List AT := [tx_ic 0, tx_fall 21]
def b_X11_wins_21 : List AT := [tx_ic 1, tx_ic 1, tx_callv 11 (nf G_X11_bad) 3, tx_ifz r_eq 31, tx_ic 0, tx_rz]
def b_X11_wins_31 : List AT := [tx_al 0, tx_il 1, tx_callv 11 (nf G_X11_winsBy) 1, tx_rz]
def R_X11_wins (J : JT) (Q : QT) : Prop := (∀ ls st M, wpl J Q b_X11_wins_0 ls st M → J 0 ls st M) ∧ (∀ ls st M, wpl J Q b_X11_wins_20 ls st M → J 20 ls st M) ∧ (∀ ls st M, wpl J Q b_X11_wins_21 ls st M → J 21 ls st M) ∧ (∀ ls st M, wpl J Q b_X11_wins_31 ls st M → J 31 ls st M)
theorem R_X11_wins_0 {J : JT} {Q : QT} (R : R_X11_wins J Q) {ls : Ls} {st : St} {M : Mem} (h : wpl J Q b_X11_wins_0 ls st M) : J 0 ls st M := R.1 ls st M h
theorem R_X11_wins_20 {J : JT} {Q : QT} (R : R_X11_wins J Q) {ls : Ls} {st : St} {M : Mem} (h : wpl J Q b_X11_wins_20 ls st M) : J 20 ls st M := R.2.1 ls st M h
theorem R_X11_wins_21 {J : JT} {Q : QT} (R : R_X11_wins J Q) {ls : Ls} {st : St} {M : Mem} (h : wpl J Q b_X11_wins_21 ls st M) : J 21 ls st M := R.2.2.1 ls st M h
theorem R_X11_wins_31 {J : JT} {Q : QT} (R : R_X11_wins J Q) {ls : Ls} {st : St} {M : Mem} (h : wpl J Q b_X11_wins_31 ls st M) : J 31 ls st M := R.2.2.2 ls st M h
def b_X11_sums_0 : List AT := [tx_al 0, tx_ic 0, tx_pi 11 0, tx_al 0, tx_il 1, tx_call (nf G_X11_isMinute) 1, tx_ifz r_eq 22, tx_il 2, tx_ic 0, tx_ic 2, tx_call (nf G_X11_in) 3, tx_ifz r_ne 26, tx_fall 22]
def b_X11_sums_22 : List AT := [tx_ic 1, tx_fall 27]
def b_X11_sums_26 : List AT := [tx_ic 0, tx_fall 27]
def b_X11_sums_27 : List AT := [tx_ic 1, tx_ic 1, tx_callv 11 (nf G_X11_bad) 3, tx_ifz r_eq 37, tx_ic 0, tx_ri]
def b_X11_sums_37 : List AT := [tx_al 0, tx_ic 1000000, tx_pi 11 36, tx_al 0, tx_il 1, tx_callv 11 (nf G_X11_goes) 1, tx_ic 0, tx_is 3, tx_ic 0, tx_is 4, tx_fall 54]
def b_X11_sums_54 : List AT := [tx_il 4, tx_al 0, tx_gr 11 4, tx_ic 1, tx_ia, tx_cmp r_ge 127, tx_al 0, tx_gr 11 133, tx_il 4, tx_ia, tx_ic (-1), tx_cmp r_ne 80, tx_ic 0, tx_fall 97]
def b_X11_sums_80 : List AT := [tx_al 0, tx_gr 11 133, tx_il 4, tx_ia, tx_ic (-2), tx_cmp r_ne 96, tx_ic 2, tx_fall 97]
def b_X11_sums_96 : List AT := [tx_ic 1, tx_fall 97]
def b_X11_sums_97 : List AT := [tx_is 5, tx_il 3, tx_il 5, tx_il 2, tx_cmp r_ne 118, tx_al 0, tx_gr 11 42, tx_il 4, tx_aa 5, tx_ic 1, tx_ia, tx_fall 119]
def b_X11_sums_118 : List AT := [tx_ic 0, tx_fall 119]
def b_X11_sums_119 : List AT := [tx_bin f_add, tx_is 3, tx_inc 4 1, tx_fall 54]
def b_X11_sums_127 : List AT := [tx_il 3, tx_ri]
def R_X11_sums (J : JT) (Q : QT) : Prop := (∀ ls st M, wpl J Q b_X11_sums_0 ls st M → J 0 ls st M) ∧ (∀ ls st M, wpl J Q b_X11_sums_22 ls st M → J 22 ls st M) ∧ (∀ ls st M, wpl J Q b_X11_sums_26 ls st M → J 26 ls st M) ∧ (∀ ls st M, wpl J Q b_X11_sums_27 ls st M → J 27 ls st M) ∧ (∀ ls st M, wpl J Q b_X11_sums_37 ls st M → J 37 ls st M) ∧ (∀ ls st M, wpl J Q b_X11_sums_54 ls st M → J 54 ls st M) ∧ (∀ ls st M, wpl J Q b_X11_sums_80 ls st M → J 80 ls st M) ∧ (∀ ls st M, wpl J Q b_X11_sums_96 ls st M → J 96 ls st M) ∧ (∀ ls st M, wpl J Q b_X11_sums_97 ls st M → J 97 ls st M) ∧ (∀ ls st M, wpl J Q b_X11_sums_118 ls st M → J 118 ls st M) ∧ (∀ ls st M, wpl J Q b_X11_sums_119 ls st M → J 119 ls st M) ∧ (∀ ls st M, wpl J Q b_X11_sums_127 ls st M → J 127 ls st M)
theorem R_X11_sums_0 {J : JT} {Q : QT} (R : R_X11_sums J Q) {ls : Ls} {st : St} {M : Mem} (h : wpl J Q b_X11_sums_0 ls st M) : J 0 ls st M := R.1 ls st M h
theorem R_X11_sums_22 {J : JT} {Q : QT} (R : R_X11_sums J Q) {ls : Ls} {st : St} {M : Mem} (h : wpl J Q b_X11_sums_22 ls st M) : J 22 ls st M := R.2.1 ls st M h
theorem R_X11_sums_26 {J : JT} {Q : QT} (R : R_X11_sums J Q) {ls : Ls} {st : St} {M : Mem} (h : wpl J Q b_X11_sums_26 ls st M) : J 26 ls st M := R.2.2.1 ls st M h
theorem R_X11_sums_27 {J : JT} {Q : QT} (R : R_X11_sums J Q) {ls : Ls} {st : St} {M : Mem} (h : wpl J Q b_X11_sums_27 ls st M) : J 27 ls st M := R.2.2.2.1 ls st M h
theorem R_X11_sums_37 {J : JT} {Q : QT} (R : R_X11_sums J Q) {ls : Ls} {st : St} {M : Mem} (h : wpl J Q b_X11_sums_37 ls st M) : J 37 ls st M := R.2.2.2.2.1 ls st M h
theorem R_X11_sums_54 {J : JT} {Q : QT} (R : R_X11_sums J Q) {ls : Ls} {st : St} {M : Mem} (h : wpl J Q b_X11_sums_54 ls st M) : J 54 ls st M := R.2.2.2.2.2.1 ls st M h
theorem R_X11_sums_80 {J : JT} {Q : QT} (R : R_X11_sums J Q) {ls : Ls} {st : St} {M : Mem} (h : wpl J Q b_X11_sums_80 ls st M) : J 80 ls st M := R.2.2.2.2.2.2.1 ls st M h
theorem R_X11_sums_96 {J : JT} {Q : QT} (R : R_X11_sums J Q) {ls : Ls} {st : St} {M : Mem} (h : wpl J Q b_X11_sums_96 ls st M) : J 96 ls st M := R.2.2.2.2.2.2.2.1 ls st M h
theorem R_X11_sums_97 {J : JT} {Q : QT} (R : R_X11_sums J Q) {ls : Ls} {st : St} {M : Mem} (h : wpl J Q b_X11_sums_97 ls st M) : J 97 ls st M := R.2.2.2.2.2.2.2.2.1 ls st M h
theorem R_X11_sums_118 {J : JT} {Q : QT} (R : R_X11_sums J Q) {ls : Ls} {st : St} {M : Mem} (h : wpl J Q b_X11_sums_118 ls st M) : J 118 ls st M := R.2.2.2.2.2.2.2.2.2.1 ls st M h
theorem R_X11_sums_119 {J : JT} {Q : QT} (R : R_X11_sums J Q) {ls : Ls} {st : St} {M : Mem} (h : wpl J Q b_X11_sums_119 ls st M) : J 119 ls st M := R.2.2.2.2.2.2.2.2.2.2.1 ls st M h
theorem R_X11_sums_127 {J : JT} {Q : QT} (R : R_X11_sums J Q) {ls : Ls} {st : St} {M : Mem} (h : wpl J Q b_X11_sums_127 ls st M) : J 127 ls st M := R.2.2.2.2.2.2.2.2.2.2.2 ls st M h
theorem P_X11_passes {J : JT} {Q : QT} (R : R_X11_passes J Q) {as : List Vl} {M : Mem} (h : nf G_X11_passes as M Q) : (enL as).length ≤ 2 ∧ J 0 (padL 2 (enL as)) [] M := by
  unfold nf G_X11_passes at h
  split at h
  · rename_i k law
    obtain ⟨rfl, s, hM, hQ⟩ := h
    have h1 := hM.t0 0
    have e0 : up M 159 0 0 159 0 = 0 := up_eq
    have mf : MF M (up M 159 0 0) := MF.t0 M 0
    have no2 : ¬ (0 ≤ law ∧ law < 3) → an_passes law s = nay s 2 := fun c => if_pos c
    have body : (0 ≤ law ∧ law < 3) → J 28 [some (vR 159), some (vI law)] [] (up M 159 0 0) := by
      intro c1
      have ea : an_passes law s = _ := if_neg (fun z => z c1)
      rw [ea] at hQ
      generalize up M 159 0 0 = M1 at h1 e0 mf
      have kp : ∀ M2 : Mem, (∀ u v, (u < 292 ∨ 330 < u) → ¬ (u = 159 ∧ v = 36) → M2 u v = M1 u v) → Mdl M2 s ∧ MF M M2 ∧ M2 159 0 = 0 := fun M2 f2 => ⟨h1.kept (fun u v hu => f2 u v (by unfold RC at hu; omega) (by unfold RC at hu; omega)) (by rw [f2 _ _ (by omega) (by omega)]; exact h1.2.2.2.2.2.2.2), mf.tr (fun u v hu => f2 u v (by omega) (by omega)), (f2 _ _ (by omega) (by omega)).trans e0⟩
      have w35 := h1.2.2.2.2.2.2.1
      have b37 := h1.2.2.2.2.2.2.2
      
      have ho := h1.1.1
      have q1 := nM_le ho
      refine R_X11_passes_28 R (an o159 ⟨s.1, ⟨rfl, b37.1, b37.2⟩, h1.1, h1.2.1, fun M3 g1 g2 g4 => an o159 ⟨s.1, ⟨rfl, c1.1, c1.2⟩, (kp M3 g1).1.1, ?_⟩⟩)
      obtain ⟨k1, k2, k3⟩ := kp M3 g1
      rw [w35] at g4
      rw [ps_eq c1.1 c1.2 g4]
      exact hQ M3 _ k2 k1 k3 (fun _ => rfl)
    have atB : ∀ b : Int, (b = 0 ∧ (0 ≤ law ∧ law < 3)) ∨ (b = 1 ∧ ¬ (0 ≤ law ∧ law < 3)) → J 18 [some (vR 159), some (vI law)] [vI b, vR 159] (up M 159 0 0) := by
      intro b hb
      rcases hb with ⟨rfl, c2⟩ | ⟨rfl, c2⟩
      · exact R_X11_passes_18 R (an o159 ⟨⟨rfl, by decide, by decide, e0⟩, fun z => absurd rfl z, fun _ => bt rfl (body c2)⟩)
      · exact R_X11_passes_18 R (an o159 ⟨⟨rfl, by decide, by decide, e0⟩, fun _ => bf (by decide) (m_no (cd := cd1) (Q := fun r M' => Q (.inl r) M') hM 2 1 (by decide) rfl (no2 c2) 0 hQ), fun z => absurd z (by decide)⟩)
    exact ⟨Nat.le_of_ble_eq_true rfl, R_X11_passes_0 R (an o159 (br (fun d0 => bt (by decide) (R_X11_passes_17 R (atB 0 (Or.inl ⟨rfl, by omega⟩)))) (fun d0 => bf (by decide) (atB 1 (Or.inr ⟨rfl, by omega⟩)))))⟩
  · exact h.elim
theorem P_X11_unlike {J : JT} {Q : QT} (R : R_X11_unlike J Q) {as : List Vl} {M : Mem} (h : nf G_X11_unlike as M Q) : (enL as).length ≤ 3 ∧ J 0 (padL 3 (enL as)) [] M := by
  unfold nf G_X11_unlike at h
  split at h
  · rename_i k law ot
    obtain ⟨rfl, s, hM, hQ⟩ := h
    have h1 := hM.t0 0
    have e0 : up M 159 0 0 159 0 = 0 := up_eq
    have mf : MF M (up M 159 0 0) := MF.t0 M 0
    have no2 : ¬ ((0 ≤ law ∧ law < 3) ∧ (0 ≤ ot ∧ ot < 3)) → an_unlike law ot s = nay s 2 := fun c => if_pos c
    have body : ((0 ≤ law ∧ law < 3) ∧ (0 ≤ ot ∧ ot < 3)) → J 35 [some (vR 159), some (vI law), some (vI ot)] [] (up M 159 0 0) := by
      intro c1
      have ea : an_unlike law ot s = _ := if_neg (fun z => z c1)
      rw [ea] at hQ
      generalize up M 159 0 0 = M1 at h1 e0 mf
      have kp : ∀ M2 : Mem, (∀ u v, (u < 292 ∨ 330 < u) → ¬ (u = 159 ∧ v = 36) → M2 u v = M1 u v) → Mdl M2 s ∧ MF M M2 ∧ M2 159 0 = 0 := fun M2 f2 => ⟨h1.kept (fun u v hu => f2 u v (by unfold RC at hu; omega) (by unfold RC at hu; omega)) (by rw [f2 _ _ (by omega) (by omega)]; exact h1.2.2.2.2.2.2.2), mf.tr (fun u v hu => f2 u v (by omega) (by omega)), (f2 _ _ (by omega) (by omega)).trans e0⟩
      have w35 := h1.2.2.2.2.2.2.1
      have b37 := h1.2.2.2.2.2.2.2
      
      have ho := h1.1.1
      have q1 := nM_le ho
      refine R_X11_unlike_35 R (an o159 ⟨s.1, ⟨rfl, b37.1, b37.2⟩, h1.1, h1.2.1, fun M3 g1 g2 g4 => an o159 ⟨s.1, ⟨rfl, c1.1.1, c1.1.2⟩, (kp M3 g1).1.1, an o159 ⟨s.1, ⟨rfl, c1.2.1, c1.2.2⟩, (kp M3 g1).1.1, ?_⟩⟩⟩)
      obtain ⟨k1, k2, k3⟩ := kp M3 g1
      rw [w35] at g4
      have a1 := psN_lt ho (-1) law
      have a2 := psN_lt ho (-1) ot
      show (0 ≤ xorI _ _ ∧ xorI _ _ < 16384) ∧ _
      rw [ps_eq c1.1.1 c1.1.2 g4, ps_eq c1.2.1 c1.2.2 g4, xorI_n (by omega) (by omega)]
      have a3 : psN s.1 (-1) law ^^^ psN s.1 (-1) ot < 256 := xor_lt (n := 8) a1 a2
      exact ⟨⟨by omega, by omega⟩, hQ M3 _ k2 k1 k3 (fun _ => rfl)⟩
    have atB : ∀ b : Int, (b = 0 ∧ ((0 ≤ law ∧ law < 3) ∧ (0 ≤ ot ∧ ot < 3))) ∨ (b = 1 ∧ ¬ ((0 ≤ law ∧ law < 3) ∧ (0 ≤ ot ∧ ot < 3))) → J 25 [some (vR 159), some (vI law), some (vI ot)] [vI b, vR 159] (up M 159 0 0) := by
      intro b hb
      rcases hb with ⟨rfl, c2⟩ | ⟨rfl, c2⟩
      · exact R_X11_unlike_25 R (an o159 ⟨⟨rfl, by decide, by decide, e0⟩, fun z => absurd rfl z, fun _ => bt rfl (body c2)⟩)
      · exact R_X11_unlike_25 R (an o159 ⟨⟨rfl, by decide, by decide, e0⟩, fun _ => bf (by decide) (m_no (cd := cd1) (Q := fun r M' => Q (.inl r) M') hM 2 1 (by decide) rfl (no2 c2) 0 hQ), fun z => absurd z (by decide)⟩)
    exact ⟨Nat.le_of_ble_eq_true rfl, R_X11_unlike_0 R (an o159 (br (fun d0 => bf (by decide) (br (fun d1 => bt (by decide) (R_X11_unlike_24 R (atB 0 (Or.inl ⟨rfl, by omega⟩)))) (fun d1 => bf (by decide) (R_X11_unlike_20 R (atB 1 (Or.inr ⟨rfl, by omega⟩)))))) (fun d0 => bt rfl (R_X11_unlike_20 R (atB 1 (Or.inr ⟨rfl, by omega⟩))))))⟩
  · exact h.elim
theorem P_X11_motion {J : JT} {Q : QT} (R : R_X11_motion J Q) {as : List Vl} {M : Mem} (h : nf G_X11_motion as M Q) : (enL as).length ≤ 4 ∧ J 0 (padL 4 (enL as)) [] M := by
  unfold nf G_X11_motion at h
  split at h
  · rename_i k m law w
    obtain ⟨rfl, s, hM, hQ⟩ := h
    have h1 := hM.t0 0
    have e0 : up M 159 0 0 159 0 = 0 := up_eq
    have mf : MF M (up M 159 0 0) := MF.t0 M 0
    have no1 : ¬ (0 ≤ m ∧ m < s.1 10 4) → an_motion m law w s = nay s 1 := fun c => if_pos c
    have no2 : (0 ≤ m ∧ m < s.1 10 4) → ¬ ((0 ≤ law ∧ law < 3) ∧ (0 ≤ w ∧ w ≤ 2)) → an_motion m law w s = nay s 2 := fun c1 c2 => (if_neg (fun z => z c1)).trans (if_pos c2)
    have body : (0 ≤ m ∧ m < s.1 10 4) → ((0 ≤ law ∧ law < 3) ∧ (0 ≤ w ∧ w ≤ 2)) → J 59 [some (vR 159), some (vI m), some (vI law), some (vI w)] [] (up M 159 0 0) := by
      intro c1 c2
      have ea : an_motion m law w s = _ := (if_neg (fun z => z c1)).trans (if_neg (fun z => z c2))
      rw [ea] at hQ
      generalize up M 159 0 0 = M1 at h1 e0 mf
      have kp : ∀ M2 : Mem, (∀ u v, (u < 292 ∨ 330 < u) → ¬ (u = 159 ∧ v = 36) → M2 u v = M1 u v) → Mdl M2 s ∧ MF M M2 ∧ M2 159 0 = 0 := fun M2 f2 => ⟨h1.kept (fun u v hu => f2 u v (by unfold RC at hu; omega) (by unfold RC at hu; omega)) (by rw [f2 _ _ (by omega) (by omega)]; exact h1.2.2.2.2.2.2.2), mf.tr (fun u v hu => f2 u v (by omega) (by omega)), (f2 _ _ (by omega) (by omega)).trans e0⟩
      have w35 := h1.2.2.2.2.2.2.1
      have b37 := h1.2.2.2.2.2.2.2
      
      have ho := h1.1.1
      have q1 := nM_le ho
      
      have fin : ∀ (M3 : Mem) (v : Int), MF M M3 → Mdl M3 s → M3 159 0 = 0 → v = (if w = 2 then (if psB s.1 (-1) law m.toNat = true then 1 else 0) else cnM s.1 m.toNat law w.toNat) → J 90 [some (vR 159), some (vI m), some (vI law), some (vI w)] [vI v] M3 := fun M3 v k2 k1 k3 hv => R_X11_motion_90 R (hQ M3 v k2 k1 k3 (fun _ => hv))
      refine R_X11_motion_59 R (an o159 ⟨s.1, ⟨rfl, b37.1, b37.2⟩, h1.1, h1.2.1, fun M3 g1 g2 g4 => ?_⟩)
      obtain ⟨k1, k2, k3⟩ := kp M3 g1
      rw [w35] at g4
      refine br (fun g => R_X11_motion_81 R (an o159 ⟨s.1, ⟨rfl, c2.1.1, c2.1.2⟩, k1.1, ?_⟩)) (fun g => an o159 (an (ak_of sh298 c1.1 (by omega)) ?_))
      · have g : 2 ≤ w := g
        rw [ps_eq c2.1.1 c2.1.2 g4]
        refine fin M3 _ k2 k1 k3 ?_
        have a1 := psN_lt ho (-1) law
        rw [if_pos (by omega), bit_and (by omega) (by omega) c1.1 (by omega)]
        have eb : bitB ((psN s.1 (-1) law : Nat) : Int) m = psB s.1 (-1) law m.toNat := pbN_bit _ _ _ (by omega)
        rw [eb]
      · have g : ¬ 2 ≤ w := g
        rw [ct_row rfl]
        refine an (ak_of (sh_ct m.toNat (by omega)) c2.1.1 (by omega)) ?_
        rw [cr_row (by omega) rfl]
        refine an (ak_of (sh_cr m.toNat (by omega) law.toNat (by omega)) c2.2.1 (by omega)) (fin M3 _ k2 k1 k3 ?_)
        rw [if_neg (by omega), g4 m.toNat law.toNat w.toNat (by omega) (by omega) (by omega)]
        have e : ((law.toNat : Nat) : Int) = law := by omega
        rw [e]
        rfl
    have atB : (0 ≤ m ∧ m < s.1 10 4) → ∀ b : Int, (b = 0 ∧ ((0 ≤ law ∧ law < 3) ∧ (0 ≤ w ∧ w ≤ 2))) ∨ (b = 1 ∧ ¬ ((0 ≤ law ∧ law < 3) ∧ (0 ≤ w ∧ w ≤ 2))) → J 49 [some (vR 159), some (vI m), some (vI law), some (vI w)] [vI b, vR 159] (up M 159 0 0) := by
      intro c1 b hb
      rcases hb with ⟨rfl, c2⟩ | ⟨rfl, c2⟩
      · exact R_X11_motion_49 R (an o159 ⟨⟨rfl, by decide, by decide, e0⟩, fun z => absurd rfl z, fun _ => bt rfl (body c1 c2)⟩)
      · exact R_X11_motion_49 R (an o159 ⟨⟨rfl, by decide, by decide, e0⟩, fun _ => bf (by decide) (R_X11_motion_57 R (m_no (cd := cd2) (Q := fun r M' => Q (.inl r) M') hM 2 2 (by decide) rfl (no2 c1 c2) 0 hQ)), fun z => absurd z (by decide)⟩)
    have at1 : ∀ b : Int, (b = 0 ∧ (0 ≤ m ∧ m < s.1 10 4)) ∨ (b = 1 ∧ ¬ (0 ≤ m ∧ m < s.1 10 4)) → J 19 [some (vR 159), some (vI m), some (vI law), some (vI w)] [vI b, vR 159] (up M 159 0 0) := by
      intro b hb
      rcases hb with ⟨rfl, c1⟩ | ⟨rfl, c1⟩
      · exact R_X11_motion_19 R (an o159 ⟨⟨rfl, by decide, by decide, e0⟩, fun z => absurd rfl z, fun _ => bf (by decide) (br (fun d0 => bf (by decide) (br (fun d1 => bt (by decide) (R_X11_motion_48 R (atB c1 0 (Or.inl ⟨rfl, by omega⟩)))) (fun d1 => bf (by decide) (R_X11_motion_44 R (atB c1 1 (Or.inr ⟨rfl, by omega⟩)))))) (fun d0 => bt rfl (R_X11_motion_44 R (atB c1 1 (Or.inr ⟨rfl, by omega⟩)))))⟩)
      · exact R_X11_motion_19 R (an o159 ⟨⟨rfl, by decide, by decide, e0⟩, fun _ => bt (by decide) (R_X11_motion_57 R (m_no (cd := cd2) (Q := fun r M' => Q (.inl r) M') hM 1 1 (by decide) rfl (no1 c1) 0 hQ)), fun z => absurd z (by decide)⟩)
    exact ⟨Nat.le_of_ble_eq_true rfl, R_X11_motion_0 R (an o159 (an o159 ⟨s.1, rfl, h1.1, br (fun d0 => bt (by decide) (R_X11_motion_18 R (at1 0 (Or.inl ⟨rfl, d0⟩)))) (fun d0 => bf (by decide) (at1 1 (Or.inr ⟨rfl, d0⟩)))⟩))⟩
  · exact h.elim
theorem P_X11_decides {J : JT} {Q : QT} (R : R_X11_decides J Q) {as : List Vl} {M : Mem} (h : nf G_X11_decides as M Q) : (enL as).length ≤ 3 ∧ J 0 (padL 3 (enL as)) [] M := by
  unfold nf G_X11_decides at h
  split at h
  · rename_i k t
    obtain ⟨rfl, s, hM, hQ⟩ := h
    have h1 := hM.t0 0
    have e0 : up M 159 0 0 159 0 = 0 := up_eq
    have mf : MF M (up M 159 0 0) := MF.t0 M 0
    have no1 : ¬ (0 ≤ t ∧ t < s.1 10 2) → an_decides t s = nay s 1 := fun c => if_pos c
    have body : (0 ≤ t ∧ t < s.1 10 2) → J 29 [some (vR 159), some (vI t), none] [] (up M 159 0 0) := by
      intro c1
      have ea : an_decides t s = _ := if_neg (fun z => z c1)
      rw [ea] at hQ
      generalize up M 159 0 0 = M1 at h1 e0 mf
      have kp : ∀ M2 : Mem, (∀ u v, (u < 292 ∨ 330 < u) → ¬ (u = 159 ∧ v = 36) → M2 u v = M1 u v) → Mdl M2 s ∧ MF M M2 ∧ M2 159 0 = 0 := fun M2 f2 => ⟨h1.kept (fun u v hu => f2 u v (by unfold RC at hu; omega) (by unfold RC at hu; omega)) (by rw [f2 _ _ (by omega) (by omega)]; exact h1.2.2.2.2.2.2.2), mf.tr (fun u v hu => f2 u v (by omega) (by omega)), (f2 _ _ (by omega) (by omega)).trans e0⟩
      have w35 := h1.2.2.2.2.2.2.1
      have b37 := h1.2.2.2.2.2.2.2
      
      have ho := h1.1.1
      have q1 := nM_le ho
      
      have lw := ho.2.2.2.2.1
      refine R_X11_decides_29 R (an o159 ⟨s.1, ⟨rfl, b37.1, b37.2⟩, h1.1, h1.2.1, fun M3 g1 g2 g4 => an o159 (an (ak_of sh163 (by decide) (by decide)) (an o159 ?_))⟩)
      obtain ⟨k1, k2, k3⟩ := kp M3 g1
      rw [w35] at g4
      rw [show M3 (159 + 4) (Int.toNat 4) = s.1 10 0 from k1.1.2.1.2.2.2.2]
      refine ⟨s.1, ⟨rfl, by omega, by omega⟩, k1.1, ?_⟩
      rw [ps_eq (by omega) (by omega) g4]
      refine an o159 ?_
      generalize hM4 : up M3 159 35 t = M4
      have f4 : ∀ u v, ¬ (u = 159 ∧ v = 35) → M4 u v = M3 u v := fun u v hu => by rw [← hM4, up_ne hu]
      have e4 : M4 159 35 = t := by rw [← hM4]; exact up_eq
      have b4 : M4 159 37 = M3 159 37 := f4 _ _ (by omega)
      refine an o159 ⟨s.1, ⟨rfl, by rw [b4]; exact k1.2.2.2.2.2.2.2.1, by rw [b4]; exact k1.2.2.2.2.2.2.2.2⟩, k1.1.kept (fun u v a b => f4 u v (by omega)), k1.2.1.kept (f4 _ _ (by omega)) (fun u v a b => f4 u v (by omega)), fun M5 d1 d2 d4 => an o159 ?_⟩
      rw [e4] at d4
      generalize hM6 : up M5 159 35 (-1) = M6
      have f6 : ∀ u v, ¬ (u = 159 ∧ v = 35) → M6 u v = M5 u v := fun u v hu => by rw [← hM6, up_ne hu]
      have h6 : Mdl M6 s := k1.kept (fun u v hu => by
        by_cases e : u = 159 ∧ v = 35
        · rw [e.1, e.2, ← hM6, up_eq]; exact k1.2.2.2.2.2.2.1.symm
        · rw [f6 u v e, d1 u v (by unfold RC at hu; omega) (by unfold RC at hu; omega), f4 u v e]) (by rw [f6 _ _ (by omega), d1 _ _ (by omega) (by omega), b4]; exact k1.2.2.2.2.2.2.2)
      have mf6 : MF M M6 := fun u v hu => by rw [f6 u v (by omega), d1 u v (by omega) (by omega), f4 u v (by omega)]; exact k2 u v hu
      have e6 : M6 159 0 = 0 := by rw [f6 _ _ (by omega), d1 _ _ (by omega) (by omega), f4 _ _ (by omega)]; exact k3
      refine an o159 (an (ak_of sh163 (by decide) (by decide)) (an o159 ?_))
      rw [show M6 (159 + 4) (Int.toNat 4) = s.1 10 0 from h6.1.2.1.2.2.2.2]
      refine ⟨s.1, ⟨rfl, by omega, by omega⟩, h6.1, ?_⟩
      rw [ps_eq (wo := t) (by omega) (by omega) (fun k l s hk hl hs => by rw [f6 _ _ (by omega)]; exact d4 k l s hk hl hs)]
      have a1 := psN_lt ho (-1) (s.1 10 0)
      have a2 := psN_lt ho t (s.1 10 0)
      refine hQ M6 _ mf6 h6 e6 (fun _ => ?_)
      rw [xorI_n (by omega) (by omega), Nat.xor_comm]
      rfl
    have at1 : ∀ b : Int, (b = 0 ∧ (0 ≤ t ∧ t < s.1 10 2)) ∨ (b = 1 ∧ ¬ (0 ≤ t ∧ t < s.1 10 2)) → J 19 [some (vR 159), some (vI t), none] [vI b, vR 159] (up M 159 0 0) := by
      intro b hb
      rcases hb with ⟨rfl, c1⟩ | ⟨rfl, c1⟩
      · exact R_X11_decides_19 R (an o159 ⟨⟨rfl, by decide, by decide, e0⟩, fun z => absurd rfl z, fun _ => bt rfl (body c1)⟩)
      · exact R_X11_decides_19 R (an o159 ⟨⟨rfl, by decide, by decide, e0⟩, fun _ => bf (by decide) (m_no (cd := cd1) (Q := fun r M' => Q (.inl r) M') hM 1 1 (by decide) rfl (no1 c1) 0 hQ), fun z => absurd z (by decide)⟩)
    exact ⟨Nat.le_of_ble_eq_true rfl, R_X11_decides_0 R (an o159 (an o159 ⟨s.1, rfl, h1.1, br (fun d0 => bt (by decide) (R_X11_decides_18 R (at1 0 (Or.inl ⟨rfl, d0⟩)))) (fun d0 => bf (by decide) (at1 1 (Or.inr ⟨rfl, d0⟩)))⟩))⟩
  · exact h.elim
theorem P_X11_power {J : JT} {Q : QT} (R : R_X11_power J Q) {as : List Vl} {M : Mem} (h : nf G_X11_power as M Q) : (enL as).length ≤ 2 ∧ J 0 (padL 2 (enL as)) [] M := by
  unfold nf G_X11_power at h
  split at h
  · rename_i k p
    obtain ⟨rfl, s, hM, hQ⟩ := h
    have h1 := hM.t0 0
    have e0 : up M 159 0 0 159 0 = 0 := up_eq
    have mf : MF M (up M 159 0 0) := MF.t0 M 0
    have no1 : ¬ (0 ≤ p ∧ p < s.1 10 1) → an_power p s = nay s 1 := fun c => if_pos c
    have body : (0 ≤ p ∧ p < s.1 10 1) → J 29 [some (vR 159), some (vI p)] [] (up M 159 0 0) := by
      intro c1
      have ea : an_power p s = _ := if_neg (fun z => z c1)
      rw [ea] at hQ
      generalize up M 159 0 0 = M1 at h1 e0 mf
      exact R_X11_power_29 R (an o159 ⟨s.1, ⟨rfl, c1.1, c1.2⟩, h1.1, hQ M1 _ mf h1 e0 (fun _ => rfl)⟩)
    have at1 : ∀ b : Int, (b = 0 ∧ (0 ≤ p ∧ p < s.1 10 1)) ∨ (b = 1 ∧ ¬ (0 ≤ p ∧ p < s.1 10 1)) → J 19 [some (vR 159), some (vI p)] [vI b, vR 159] (up M 159 0 0) := by
      intro b hb
      rcases hb with ⟨rfl, c1⟩ | ⟨rfl, c1⟩
      · exact R_X11_power_19 R (an o159 ⟨⟨rfl, by decide, by decide, e0⟩, fun z => absurd rfl z, fun _ => bt rfl (body c1)⟩)
      · exact R_X11_power_19 R (an o159 ⟨⟨rfl, by decide, by decide, e0⟩, fun _ => bf (by decide) (m_no (cd := cd1) (Q := fun r M' => Q (.inl r) M') hM 1 1 (by decide) rfl (no1 c1) 0 hQ), fun z => absurd z (by decide)⟩)
    exact ⟨Nat.le_of_ble_eq_true rfl, R_X11_power_0 R (an o159 (an o159 ⟨s.1, rfl, h1.1, br (fun d0 => bt (by decide) (R_X11_power_18 R (at1 0 (Or.inl ⟨rfl, d0⟩)))) (fun d0 => bf (by decide) (at1 1 (Or.inr ⟨rfl, d0⟩)))⟩))⟩
  · exact h.elim
theorem P_X11_wins {J : JT} {Q : QT} (R : R_X11_wins J Q) {as : List Vl} {M : Mem} (h : nf G_X11_wins as M Q) : (enL as).length ≤ 2 ∧ J 0 (padL 2 (enL as)) [] M := by
  unfold nf G_X11_wins at h
  split at h
  · rename_i k x
    obtain ⟨rfl, s, hM, hQ⟩ := h
    have h1 := hM.t0 0
    have e0 : up M 159 0 0 159 0 = 0 := up_eq
    have mf : MF M (up M 159 0 0) := MF.t0 M 0
    have no2 : ¬ (0 ≤ x ∧ x < 16) → an_wins x s = nay s 2 := fun c => if_pos c
    have body : (0 ≤ x ∧ x < 16) → J 31 [some (vR 159), some (vI x)] [] (up M 159 0 0) := by
      intro c1
      have ea : an_wins x s = _ := if_neg (fun z => z c1)
      rw [ea] at hQ
      generalize up M 159 0 0 = M1 at h1 e0 mf
      exact R_X11_wins_31 R (an o159 ⟨s.1, ⟨rfl, c1.1, c1.2⟩, h1.1, br (fun d => an (Or.inr rfl) (hQ M1 1 mf h1 e0 (fun _ => (if_pos d).symm))) (fun d => an (Or.inl rfl) (hQ M1 0 mf h1 e0 (fun _ => (if_neg d).symm)))⟩)
    have atB : ∀ b : Int, (b = 0 ∧ (0 ≤ x ∧ x < 16)) ∨ (b = 1 ∧ ¬ (0 ≤ x ∧ x < 16)) → J 21 [some (vR 159), some (vI x)] [vI b, vR 159] (up M 159 0 0) := by
      intro b hb
      rcases hb with ⟨rfl, c2⟩ | ⟨rfl, c2⟩
      · exact R_X11_wins_21 R (an o159 ⟨⟨rfl, by decide, by decide, e0⟩, fun z => absurd rfl z, fun _ => bt rfl (body c2)⟩)
      · exact R_X11_wins_21 R (an o159 ⟨⟨rfl, by decide, by decide, e0⟩, fun _ => bf (by decide) (an (Or.inl rfl) (m_no (cd := cd1) (Q := fun r M' => Q (.inl r) M') hM 2 1 (by decide) rfl (no2 c2) 0 hQ)), fun z => absurd z (by decide)⟩)
    exact ⟨Nat.le_of_ble_eq_true rfl, R_X11_wins_0 R (an o159 (br (fun d0 => bt (by decide) (R_X11_wins_20 R (atB 0 (Or.inl ⟨rfl, by omega⟩)))) (fun d0 => bf (by decide) (atB 1 (Or.inr ⟨rfl, by omega⟩)))))⟩
  · exact h.elim
theorem P_X11_sums {J : JT} {Q : QT} (R : R_X11_sums J Q) {as : List Vl} {M : Mem} (h : nf G_X11_sums as M Q) : (enL as).length ≤ 6 ∧ J 0 (padL 6 (enL as)) [] M := by
  unfold nf G_X11_sums at h
  split at h
  · rename_i k m w
    obtain ⟨rfl, s, hM, hQ⟩ := h
    have h1 := hM.t0 0
    have e0 : up M 159 0 0 159 0 = 0 := up_eq
    have mf : MF M (up M 159 0 0) := MF.t0 M 0
    have no2 : ¬ ((0 ≤ m ∧ m < 120) ∧ (0 ≤ w ∧ w ≤ 2)) → an_sums m w s = nay s 2 := fun c => if_pos c
    have body : ((0 ≤ m ∧ m < 120) ∧ (0 ≤ w ∧ w ≤ 2)) → J 37 [some (vR 159), some (vI m), some (vI w), none, none, none] [] (up M 159 0 0) := by
      intro c1
      have ea : an_sums m w s = _ := if_neg (fun z => z c1)
      rw [ea] at hQ
      generalize up M 159 0 0 = M1 at h1 e0 mf
      have kp : ∀ M2 : Mem, (∀ u v, (u < 292 ∨ 330 < u) → ¬ (u = 159 ∧ v = 36) → M2 u v = M1 u v) → Mdl M2 s ∧ MF M M2 ∧ M2 159 0 = 0 := fun M2 f2 => ⟨h1.kept (fun u v hu => f2 u v (by unfold RC at hu; omega) (by unfold RC at hu; omega)) (by rw [f2 _ _ (by omega) (by omega)]; exact h1.2.2.2.2.2.2.2), mf.tr (fun u v hu => f2 u v (by omega) (by omega)), (f2 _ _ (by omega) (by omega)).trans e0⟩
      have w35 := h1.2.2.2.2.2.2.1
      have b37 := h1.2.2.2.2.2.2.2
      
      generalize hM2 : up M1 159 36 1000000 = M2
      have f2 : ∀ u v, ¬ (u = 159 ∧ v = 36) → M2 u v = M1 u v := fun u v hu => by rw [← hM2, up_ne hu]
      have e36 : M2 159 36 = 1000000 := by rw [← hM2]; exact up_eq
      have e37 : M2 159 37 = M1 159 37 := f2 _ _ (by omega)
      have e35 : M2 159 35 = -1 := (f2 _ _ (by omega)).trans w35
      have h2 := (kp M2 (fun u v hu hv => f2 u v hv)).1
      have er : ∀ n, n ≤ 1000 → rnM M2 s.1 n = run s.1 (-1) n := by
        intro n hn
        unfold rnM
        rw [e35, e36]
        exact run_far _ _ _ _ n (by omega)
      
      have ho := h1.1.1
      have n1 := nT_le ho
      refine R_X11_sums_37 R (an o159 ?_)
      rw [hM2]
      refine an o159 ⟨s.1, ⟨rfl, c1.1.1, by omega, by rw [e37]; exact b37.1, by rw [e37]; exact b37.2⟩, h2.1, h2.2.1, fun M3 g1 g2 g3 g4 => ?_⟩
      obtain ⟨k1, k2, k3⟩ := kp M3 (fun u v hu hv => (g1 u v hu).trans (f2 u v hv))
      rw [e35, er _ (by omega)] at g2
      have key : ∀ i, i ≤ nT s.1 → ∀ (x acc : Int) (z5 : Option Vl), x = (i : Int) → acc = sumN (fun t => if isW (run s.1 (-1) (m.toNat + 1) 0 t) = w then s.1 1 t else 0) i → J 54 [some (vR 159), some (vI m), some (vI w), some (vI acc), some (vI x), z5] [] M3 := by
        refine dn ?_ ?_
        · intro x acc z5 hx ha
          rw [ha]
          exact R_X11_sums_54 R (an o159 (an (ak_of sh163 (by decide) (by decide)) (bt (show M3 163 1 ≤ x by rw [k1.1.2.1.2.1]; omega) (R_X11_sums_127 R (hQ M3 _ k2 k1 k3 (fun _ => rfl))))))
        · intro i hi ih x acc z5 hx ha
          have hxn : x.toNat = i := by omega
          have eh : M3 (159 + 133) x.toNat = run s.1 (-1) (m.toNat + 1) 0 i := by rw [hxn]; exact ((g2.1 i hi).1 (by omega)).1
          have t1 := (k1.1.2.2.2.1 i hi).2.1
          have wb := (ho.2.2.2.2.2.2.1 i hi).2.1
          generalize run s.1 (-1) (m.toNat + 1) = ρ at eh ha ih
          have b0 := wt_bd ho (c := fun t => isW (ρ 0 t) = w) (n := i) (by omega)
          have at119 : ∀ (v : Int) (z5 : Option Vl), v = (if isW (ρ 0 i) = w then s.1 1 i else 0) → J 119 [some (vR 159), some (vI m), some (vI w), some (vI acc), some (vI x), z5] [vI v, vI acc] M3 := by
            intro v z5 hv
            refine R_X11_sums_119 R (ih _ _ _ (wn hx (by omega)) ?_)
            rw [sumN, ← ha, ← hv]
            rw [← ha] at b0
            have vb : 0 ≤ v ∧ v ≤ 99 := by rw [hv]; split <;> omega
            exact w1 (by omega) (by omega) rfl
          have at97 : ∀ c : Int, c = isW (ρ 0 i) → J 97 [some (vR 159), some (vI m), some (vI w), some (vI acc), some (vI x), z5] [vI c] M3 := by
            intro c hc
            refine R_X11_sums_97 R (br (fun g => R_X11_sums_118 R (at119 0 _ ?_)) (fun g => an o159 (an (ak_of sh201 (by omega) (by omega)) ?_)))
            · have g : ¬ c = w := g
              rw [← hc, if_neg g]
            · have g : c = w := Classical.not_not.mp g
              rw [th_row hxn]
              refine an (ak_of (sh_th i (by omega)) (by decide) (by decide)) (at119 _ _ ?_)
              rw [← hc, if_pos g]
              exact t1
          refine R_X11_sums_54 R (an o159 (an (ak_of sh163 (by decide) (by decide)) (bf (show ¬ M3 163 1 ≤ x by rw [k1.1.2.1.2.1]; omega) (an o159 (an (ak_of sh292 (by omega) (by omega)) ?_)))))
          rw [eh]
          refine br (fun g => R_X11_sums_80 R (an o159 (an (ak_of sh292 (by omega) (by omega)) ?_))) (fun g => at97 0 ?_)
          · have g : ¬ ρ 0 i = -1 := g
            rw [eh]
            refine br (fun g2 => R_X11_sums_96 R (at97 1 ?_)) (fun g2 => at97 2 ?_)
            · have g2 : ¬ ρ 0 i = -2 := g2
              unfold isW; rw [if_neg g, if_neg g2]
            · have g2 : ρ 0 i = -2 := Classical.not_not.mp g2
              unfold isW; rw [if_neg g, if_pos g2]
          · have g : ρ 0 i = -1 := Classical.not_not.mp g
            unfold isW; rw [if_pos g]
      exact key 0 (Nat.zero_le _) _ _ _ rfl rfl
    have atB : ∀ b : Int, (b = 0 ∧ ((0 ≤ m ∧ m < 120) ∧ (0 ≤ w ∧ w ≤ 2))) ∨ (b = 1 ∧ ¬ ((0 ≤ m ∧ m < 120) ∧ (0 ≤ w ∧ w ≤ 2))) → J 27 [some (vR 159), some (vI m), some (vI w), none, none, none] [vI b, vR 159] (up M 159 0 0) := by
      intro b hb
      rcases hb with ⟨rfl, c2⟩ | ⟨rfl, c2⟩
      · exact R_X11_sums_27 R (an o159 ⟨⟨rfl, by decide, by decide, e0⟩, fun z => absurd rfl z, fun _ => bt rfl (body c2)⟩)
      · exact R_X11_sums_27 R (an o159 ⟨⟨rfl, by decide, by decide, e0⟩, fun _ => bf (by decide) (m_no (cd := cd1) (Q := fun r M' => Q (.inl r) M') hM 2 1 (by decide) rfl (no2 c2) 0 hQ), fun z => absurd z (by decide)⟩)
    exact ⟨Nat.le_of_ble_eq_true rfl, R_X11_sums_0 R (an o159 (br (fun d0 => bf (by decide) (br (fun d1 => bt (by decide) (R_X11_sums_26 R (atB 0 (Or.inl ⟨rfl, by omega⟩)))) (fun d1 => bf (by decide) (R_X11_sums_22 R (atB 1 (Or.inr ⟨rfl, by omega⟩)))))) (fun d0 => bt rfl (R_X11_sums_22 R (atB 1 (Or.inr ⟨rfl, by omega⟩))))))⟩

  · exact h.elim