def G_X11_minuteGoes : FN := fun as M Q => match as with
  | [.inr (.inl k), .inl m] => ∃ Ab wo σ, (k = 159 ∧ 0 ≤ m ∧ m < 1000 ∧ M 159 35 = wo ∧ 0 ≤ M 159 37 ∧ M 159 37 ≤ 1000) ∧ MdP M Ab ∧ MdL M Ab ∧ RT M Ab wo (nT Ab) ∧ RS M Ab wo σ ∧ SigOK Ab σ ∧ OU Ab wo m σ ∧
      ∀ M' : Mem, (∀ u v, (u < 292 ∨ u = 294 ∨ 330 < u) → M' u v = M u v) → RS M' Ab wo (stp Ab wo m (tmF (M 159 36) (M 159 37) m) σ) → (∀ p, p < nP Ab → M' 297 p = ldF Ab (stp Ab wo m (tmF (M 159 36) (M 159 37) m) σ) (p : Int)) →
        (∀ k l s : Nat, k < nM Ab → l < 3 → s < 2 → M' (300 + 4 * k + l) s = if Ab 7 k = tmF (M 159 36) (M 159 37) m then cntF Ab (fun p => ldF Ab (stp Ab wo m (tmF (M 159 36) (M 159 37) m) σ) (p : Int)) (if s = 0 then Ab 8 k else Ab 9 k) (l : Int) else M (300 + 4 * k + l) s) → Q none M'
  | _ => False
def b_X11_minuteGoes_0 : List AT := [tx_ic 0, tx_is 2, tx_fall 2]
def b_X11_minuteGoes_2 : List AT := tx_il 2 :: tx_al 0 :: tx_gr 11 4 :: tx_ic 1 :: tx_ia :: tx_cmp r_ge 61 :: tx_il 2 :: tx_al 0 :: tx_gi 11 35 :: tx_cmp r_eq 55 :: tx_al 0 :: tx_gr 11 42 :: tx_il 2 :: tx_aa 5 :: tx_ic 2 :: tx_ia :: tx_ic (-1) :: tx_cmp r_eq 55 :: tx_al 0 :: tx_gr 11 135 :: tx_il 2 :: tx_ia :: tx_il 1 :: tx_cmp r_ne 55 :: tx_al 0 :: tx_il 2 :: tx_al 0 :: tx_gr 11 42 :: tx_il 2 :: tx_aa 5 :: tx_ic 0 :: tx_ia :: tx_callv 11 (nf G_X11_comesTo) 2 :: tx_fall 55 :: []
def b_X11_minuteGoes_55 : List AT := [tx_inc 2 1, tx_fall 2]
def b_X11_minuteGoes_61 : List AT := [tx_ic 0, tx_is 2, tx_fall 63]
def b_X11_minuteGoes_63 : List AT := tx_il 2 :: tx_al 0 :: tx_gr 11 4 :: tx_ic 1 :: tx_ia :: tx_cmp r_ge 123 :: tx_al 0 :: tx_gr 11 134 :: tx_il 2 :: tx_ia :: tx_ic (-1) :: tx_cmp r_eq 117 :: tx_al 0 :: tx_al 0 :: tx_gr 11 96 :: tx_al 0 :: tx_gr 11 134 :: tx_il 2 :: tx_ia :: tx_aa 5 :: tx_ic 3 :: tx_ia :: tx_callv 11 (nf G_X11_later) 1 :: tx_il 1 :: tx_cmp r_ne 117 :: tx_al 0 :: tx_il 2 :: tx_al 0 :: tx_gr 11 42 :: tx_il 2 :: tx_aa 5 :: tx_ic 0 :: tx_ia :: tx_callv 11 (nf G_X11_comesTo) 2 :: tx_fall 117 :: []
def b_X11_minuteGoes_117 : List AT := [tx_inc 2 1, tx_fall 63]
def b_X11_minuteGoes_123 : List AT := [tx_ic 0, tx_is 2, tx_fall 125]
def b_X11_minuteGoes_125 : List AT := tx_il 2 :: tx_al 0 :: tx_gi 11 22 :: tx_cmp r_ge 228 :: tx_al 0 :: tx_gr 11 96 :: tx_il 2 :: tx_aa 5 :: tx_ic 0 :: tx_ia :: tx_is 3 :: tx_al 0 :: tx_gr 11 96 :: tx_il 2 :: tx_aa 5 :: tx_ic 1 :: tx_ia :: tx_is 4 :: tx_al 0 :: tx_al 0 :: tx_gr 11 96 :: tx_il 2 :: tx_aa 5 :: tx_ic 2 :: tx_ia :: tx_callv 11 (nf G_X11_later) 1 :: tx_il 1 :: tx_cmp r_ne 222 :: tx_il 3 :: tx_al 0 :: tx_gi 11 35 :: tx_cmp r_eq 222 :: tx_al 0 :: tx_gr 11 133 :: tx_il 3 :: tx_ia :: tx_al 0 :: tx_gr 11 42 :: tx_il 3 :: tx_aa 5 :: tx_ic 0 :: tx_ia :: tx_cmp r_ne 222 :: tx_al 0 :: tx_gr 11 137 :: tx_il 4 :: tx_ia :: tx_ic (-1) :: tx_cmp r_eq 207 :: tx_fall 222 :: []
def b_X11_minuteGoes_207 : List AT := [tx_al 0, tx_gr 11 133, tx_il 3, tx_il 4, tx_iax, tx_al 0, tx_gr 11 134, tx_il 3, tx_il 2, tx_iax, tx_fall 222]
def b_X11_minuteGoes_222 : List AT := [tx_inc 2 1, tx_fall 125]
def b_X11_minuteGoes_228 : List AT := [tx_al 0, tx_callv 11 (nf G_X11_weighs) 0, tx_ic 0, tx_is 2, tx_fall 234]
def b_X11_minuteGoes_234 : List AT := [tx_il 2, tx_al 0, tx_gr 11 4, tx_ic 0, tx_ia, tx_cmp r_ge 293, tx_al 0, tx_gr 11 137, tx_il 2, tx_ia, tx_ic (-1), tx_cmp r_eq 257, tx_fall 287]
def b_X11_minuteGoes_257 : List AT := [tx_al 0, tx_gr 11 136, tx_il 2, tx_dup2, tx_ia, tx_al 0, tx_gr 11 138, tx_il 2, tx_ia, tx_bin f_sub, tx_iax, tx_al 0, tx_gr 11 136, tx_il 2, tx_ia, tx_ifz r_ge 287, tx_al 0, tx_il 2, tx_il 1, tx_callv 11 (nf G_X11_drops) 2, tx_fall 287]
def b_X11_minuteGoes_287 : List AT := [tx_inc 2 1, tx_fall 234]
def b_X11_minuteGoes_293 : List AT := [tx_al 0, tx_callv 11 (nf G_X11_weighs) 0, tx_ic 0, tx_is 2, tx_fall 299]
def b_X11_minuteGoes_299 : List AT := [tx_il 2, tx_al 0, tx_gr 11 4, tx_ic 3, tx_ia, tx_cmp r_ge 336, tx_al 0, tx_al 0, tx_gr 11 66, tx_il 2, tx_aa 5, tx_ic 0, tx_ia, tx_callv 11 (nf G_X11_later) 1, tx_il 1, tx_cmp r_ne 330, tx_al 0, tx_il 2, tx_callv 11 (nf G_X11_countsOf) 1, tx_fall 330]
def b_X11_minuteGoes_330 : List AT := [tx_inc 2 1, tx_fall 299]
def b_X11_minuteGoes_336 : List AT := [tx_rv]
def R_X11_minuteGoes (J : JT) (Q : QT) : Prop := (∀ ls st M, wpl J Q b_X11_minuteGoes_0 ls st M → J 0 ls st M) ∧ (∀ ls st M, wpl J Q b_X11_minuteGoes_2 ls st M → J 2 ls st M) ∧ (∀ ls st M, wpl J Q b_X11_minuteGoes_55 ls st M → J 55 ls st M) ∧ (∀ ls st M, wpl J Q b_X11_minuteGoes_61 ls st M → J 61 ls st M) ∧ (∀ ls st M, wpl J Q b_X11_minuteGoes_63 ls st M → J 63 ls st M) ∧ (∀ ls st M, wpl J Q b_X11_minuteGoes_117 ls st M → J 117 ls st M) ∧ (∀ ls st M, wpl J Q b_X11_minuteGoes_123 ls st M → J 123 ls st M) ∧ (∀ ls st M, wpl J Q b_X11_minuteGoes_125 ls st M → J 125 ls st M) ∧ (∀ ls st M, wpl J Q b_X11_minuteGoes_207 ls st M → J 207 ls st M) ∧ (∀ ls st M, wpl J Q b_X11_minuteGoes_222 ls st M → J 222 ls st M) ∧ (∀ ls st M, wpl J Q b_X11_minuteGoes_228 ls st M → J 228 ls st M) ∧ (∀ ls st M, wpl J Q b_X11_minuteGoes_234 ls st M → J 234 ls st M) ∧ (∀ ls st M, wpl J Q b_X11_minuteGoes_257 ls st M → J 257 ls st M) ∧ (∀ ls st M, wpl J Q b_X11_minuteGoes_287 ls st M → J 287 ls st M) ∧ (∀ ls st M, wpl J Q b_X11_minuteGoes_293 ls st M → J 293 ls st M) ∧ (∀ ls st M, wpl J Q b_X11_minuteGoes_299 ls st M → J 299 ls st M) ∧ (∀ ls st M, wpl J Q b_X11_minuteGoes_330 ls st M → J 330 ls st M) ∧ (∀ ls st M, wpl J Q b_X11_minuteGoes_336 ls st M → J 336 ls st M)
theorem R_X11_minuteGoes_0 {J : JT} {Q : QT} (R : R_X11_minuteGoes J Q) {ls : Ls} {st : St} {M : Mem} (h : wpl J Q b_X11_minuteGoes_0 ls st M) : J 0 ls st M := R.1 ls st M h
theorem R_X11_minuteGoes_2 {J : JT} {Q : QT} (R : R_X11_minuteGoes J Q) {ls : Ls} {st : St} {M : Mem} (h : wpl J Q b_X11_minuteGoes_2 ls st M) : J 2 ls st M := R.2.1 ls st M h
theorem R_X11_minuteGoes_55 {J : JT} {Q : QT} (R : R_X11_minuteGoes J Q) {ls : Ls} {st : St} {M : Mem} (h : wpl J Q b_X11_minuteGoes_55 ls st M) : J 55 ls st M := R.2.2.1 ls st M h
theorem R_X11_minuteGoes_61 {J : JT} {Q : QT} (R : R_X11_minuteGoes J Q) {ls : Ls} {st : St} {M : Mem} (h : wpl J Q b_X11_minuteGoes_61 ls st M) : J 61 ls st M := R.2.2.2.1 ls st M h
theorem R_X11_minuteGoes_63 {J : JT} {Q : QT} (R : R_X11_minuteGoes J Q) {ls : Ls} {st : St} {M : Mem} (h : wpl J Q b_X11_minuteGoes_63 ls st M) : J 63 ls st M := R.2.2.2.2.1 ls st M h
theorem R_X11_minuteGoes_117 {J : JT} {Q : QT} (R : R_X11_minuteGoes J Q) {ls : Ls} {st : St} {M : Mem} (h : wpl J Q b_X11_minuteGoes_117 ls st M) : J 117 ls st M := R.2.2.2.2.2.1 ls st M h
theorem R_X11_minuteGoes_123 {J : JT} {Q : QT} (R : R_X11_minuteGoes J Q) {ls : Ls} {st : St} {M : Mem} (h : wpl J Q b_X11_minuteGoes_123 ls st M) : J 123 ls st M := R.2.2.2.2.2.2.1 ls st M h
theorem R_X11_minuteGoes_125 {J : JT} {Q : QT} (R : R_X11_minuteGoes J Q) {ls : Ls} {st : St} {M : Mem} (h : wpl J Q b_X11_minuteGoes_125 ls st M) : J 125 ls st M := R.2.2.2.2.2.2.2.1 ls st M h
theorem R_X11_minuteGoes_207 {J : JT} {Q : QT} (R : R_X11_minuteGoes J Q) {ls : Ls} {st : St} {M : Mem} (h : wpl J Q b_X11_minuteGoes_207 ls st M) : J 207 ls st M := R.2.2.2.2.2.2.2.2.1 ls st M h
theorem R_X11_minuteGoes_222 {J : JT} {Q : QT} (R : R_X11_minuteGoes J Q) {ls : Ls} {st : St} {M : Mem} (h : wpl J Q b_X11_minuteGoes_222 ls st M) : J 222 ls st M := R.2.2.2.2.2.2.2.2.2.1 ls st M h
theorem R_X11_minuteGoes_228 {J : JT} {Q : QT} (R : R_X11_minuteGoes J Q) {ls : Ls} {st : St} {M : Mem} (h : wpl J Q b_X11_minuteGoes_228 ls st M) : J 228 ls st M := R.2.2.2.2.2.2.2.2.2.2.1 ls st M h
theorem R_X11_minuteGoes_234 {J : JT} {Q : QT} (R : R_X11_minuteGoes J Q) {ls : Ls} {st : St} {M : Mem} (h : wpl J Q b_X11_minuteGoes_234 ls st M) : J 234 ls st M := R.2.2.2.2.2.2.2.2.2.2.2.1 ls st M h
theorem R_X11_minuteGoes_257 {J : JT} {Q : QT} (R : R_X11_minuteGoes J Q) {ls : Ls} {st : St} {M : Mem} (h : wpl J Q b_X11_minuteGoes_257 ls st M) : J 257 ls st M := R.2.2.2.2.2.2.2.2.2.2.2.2.1 ls st M h
theorem R_X11_minuteGoes_287 {J : JT} {Q : QT} (R : R_X11_minuteGoes J Q) {ls : Ls} {st : St} {M : Mem} (h : wpl J Q b_X11_minuteGoes_287 ls st M) : J 287 ls st M := R.2.2.2.2.2.2.2.2.2.2.2.2.2.1 ls st M h
theorem R_X11_minuteGoes_293 {J : JT} {Q : QT} (R : R_X11_minuteGoes J Q) {ls : Ls} {st : St} {M : Mem} (h : wpl J Q b_X11_minuteGoes_293 ls st M) : J 293 ls st M := R.2.2.2.2.2.2.2.2.2.2.2.2.2.2.1 ls st M h
theorem R_X11_minuteGoes_299 {J : JT} {Q : QT} (R : R_X11_minuteGoes J Q) {ls : Ls} {st : St} {M : Mem} (h : wpl J Q b_X11_minuteGoes_299 ls st M) : J 299 ls st M := R.2.2.2.2.2.2.2.2.2.2.2.2.2.2.2.1 ls st M h
theorem R_X11_minuteGoes_330 {J : JT} {Q : QT} (R : R_X11_minuteGoes J Q) {ls : Ls} {st : St} {M : Mem} (h : wpl J Q b_X11_minuteGoes_330 ls st M) : J 330 ls st M := R.2.2.2.2.2.2.2.2.2.2.2.2.2.2.2.2.1 ls st M h
theorem R_X11_minuteGoes_336 {J : JT} {Q : QT} (R : R_X11_minuteGoes J Q) {ls : Ls} {st : St} {M : Mem} (h : wpl J Q b_X11_minuteGoes_336 ls st M) : J 336 ls st M := R.2.2.2.2.2.2.2.2.2.2.2.2.2.2.2.2.2 ls st M h
theorem sh255 : SH 255 = (5, 20, 256, 1) := rfl
theorem sh_le : ∀ i, i < 20 → SH (256 + i) = (1, 4, 0, 0) := by decide
theorem le_row {x : Int} {i : Nat} (h : x.toNat = i) : (SH (159 + 96)).2.2.1 + (SH (159 + 96)).2.2.2 * x.toNat = 256 + i := by
  rw [h]
  show 256 + 1 * i = 256 + i
  omega
theorem mxP_end {M Ab σ : Mem} {wo m : Int} (hg : SigOK Ab σ) (h : RS M Ab wo (mxP Ab m σ (nP Ab))) (h2 : ((nP Ab : Nat) : Int) = Ab 10 1) : RS M Ab wo (sD Ab m σ) := by
  refine h.eqv (fun t ht => ?_) (fun p hp => ?_)
  · have := hg.1 t ht
    constructor
    · show (if (0 ≤ σ 0 t ∧ σ 0 t < ((nP Ab : Nat) : Int)) ∧ (σ 3 (σ 0 t).toNat = -1 ∧ σ 2 (σ 0 t).toNat - ldF Ab σ (σ 0 t) < 0) then -1 else σ 0 t) = (if 0 ≤ σ 0 t ∧ (σ 3 (σ 0 t).toNat = -1 ∧ σ 2 (σ 0 t).toNat - ldF Ab σ (σ 0 t) < 0) then -1 else σ 0 t)
      exact if_iff (by omega)
    · show (if (0 ≤ σ 0 t ∧ σ 0 t < ((nP Ab : Nat) : Int)) ∧ (σ 3 (σ 0 t).toNat = -1 ∧ σ 2 (σ 0 t).toNat - ldF Ab σ (σ 0 t) < 0) then -1 else σ 1 t) = (if 0 ≤ σ 0 t ∧ (σ 3 (σ 0 t).toNat = -1 ∧ σ 2 (σ 0 t).toNat - ldF Ab σ (σ 0 t) < 0) then -1 else σ 1 t)
      exact if_iff (by omega)
  · unfold mxP
    rw [if_neg (by omega), if_neg (by omega), if_pos hp, if_neg (by omega), if_neg (by omega), if_pos hp]
    exact ⟨rfl, rfl⟩
/-- a person who doesn't drop (spent before, or strong enough) -/
theorem mxP_skip {M M2 Ab σ : Mem} {wo m : Int} {i : Nat} (h : RS M Ab wo (mxP Ab m σ i)) (hi : i < nP Ab) (hc : ¬ (σ 3 i = -1 ∧ σ 2 i - ldF Ab σ (i : Int) < 0)) (f : ∀ u v, ¬ (u = 295 ∧ v = i) → M2 u v = M u v) (h5 : M2 295 i = σ 2 i - ldF Ab σ (i : Int)) : RS M2 Ab wo (mxP Ab m σ (i + 1)) := by
  refine ⟨fun t ht => ?_, fun p hp => ?_⟩
  · have h0 := h.1 t ht
    have iq : (((0 ≤ σ 0 t ∧ σ 0 t < (i : Int)) ∧ (σ 3 (σ 0 t).toNat = -1 ∧ σ 2 (σ 0 t).toNat - ldF Ab σ (σ 0 t) < 0)) ↔ ((0 ≤ σ 0 t ∧ σ 0 t < ((i + 1 : Nat) : Int)) ∧ (σ 3 (σ 0 t).toNat = -1 ∧ σ 2 (σ 0 t).toNat - ldF Ab σ (σ 0 t) < 0))) := by
      constructor
      · intro z; exact ⟨⟨z.1.1, by omega⟩, z.2⟩
      · intro z
        refine ⟨⟨z.1.1, ?_⟩, z.2⟩
        by_cases e : σ 0 t = (i : Int)
        · exfalso
          have z2 := z.2
          rw [e, Int.toNat_natCast] at z2
          exact hc z2
        · omega
    have e0 : mxP Ab m σ i 0 t = mxP Ab m σ (i + 1) 0 t := if_iff iq
    have e1 : mxP Ab m σ i 1 t = mxP Ab m σ (i + 1) 1 t := if_iff iq
    rw [f _ _ (by omega), f _ _ (by omega), ← e0, ← e1]
    exact h0
  · have h0 := h.2 p hp
    have ep : ∀ c, 2 ≤ c → ∀ j, mxP Ab m σ j c p = if p < j then sD Ab m σ c p else σ c p := by
      intro c hc j
      unfold mxP
      rw [if_neg (by omega), if_neg (by omega)]
    rw [ep 2 (by omega), ep 3 (by omega)] at h0
    rw [ep 2 (by omega), ep 3 (by omega), f 296 p (by omega)]
    by_cases e : p = i
    · subst e
      rw [if_neg (by omega), if_neg (by omega)] at h0
      rw [if_pos (by omega), if_pos (by omega), h5]
      refine ⟨rfl, h0.2.trans ?_⟩
      show σ 3 p = (if σ 3 p = -1 ∧ σ 2 p - ldF Ab σ (p : Int) < 0 then m else σ 3 p)
      rw [if_neg hc]
    · rw [f 295 p (by omega), h0.1, h0.2]
      exact ⟨if_iff (by omega), if_iff (by omega)⟩
/-- a person who drops -/
theorem mxP_drop {M M1 M2 Ab σ : Mem} {wo m : Int} {i : Nat} (h : RS M Ab wo (mxP Ab m σ i)) (hi : i < nP Ab) (hc : σ 3 i = -1 ∧ σ 2 i - ldF Ab σ (i : Int) < 0) (f1 : ∀ u v, ¬ (u = 295 ∧ v = i) → M1 u v = M u v) (h5 : M1 295 i = σ 2 i - ldF Ab σ (i : Int))
    (f2 : ∀ u v, u ≠ 292 → u ≠ 293 → ¬ (u = 296 ∧ v = i) → M2 u v = M1 u v) (h6 : M2 296 i = m) (ht2 : ∀ t, t < nT Ab → (M1 292 t = (i : Int) → M2 292 t = -1 ∧ M2 293 t = -1) ∧ (¬ M1 292 t = (i : Int) → M2 292 t = M1 292 t ∧ M2 293 t = M1 293 t)) : RS M2 Ab wo (mxP Ab m σ (i + 1)) := by
  refine ⟨fun t ht => ?_, fun p hp => ?_⟩
  · have h0 := h.1 t ht
    obtain ⟨d1, d2⟩ := ht2 t ht
    rw [f1 292 t (by omega)] at d1
    rw [f1 292 t (by omega), f1 293 t (by omega)] at d2
    have m0 : ∀ j : Nat, mxP Ab m σ j 0 t = (if (0 ≤ σ 0 t ∧ σ 0 t < (j : Int)) ∧ (σ 3 (σ 0 t).toNat = -1 ∧ σ 2 (σ 0 t).toNat - ldF Ab σ (σ 0 t) < 0) then -1 else σ 0 t) := fun j => rfl
    have m1 : ∀ j : Nat, mxP Ab m σ j 1 t = (if (0 ≤ σ 0 t ∧ σ 0 t < (j : Int)) ∧ (σ 3 (σ 0 t).toNat = -1 ∧ σ 2 (σ 0 t).toNat - ldF Ab σ (σ 0 t) < 0) then -1 else σ 1 t) := fun j => rfl
    refine ⟨fun q => ?_, fun q => ⟨?_, ?_⟩⟩
    · obtain ⟨a0, a1⟩ := h0.1 q
      rw [m0] at a0
      rw [m1] at a1
      rw [m0, m1]
      by_cases e : σ 0 t = (i : Int)
      · have b0 : M 292 t = (i : Int) := by rw [a0, if_neg (by omega)]; exact e
        obtain ⟨c0, c1⟩ := d1 b0
        have hc2 : σ 3 (σ 0 t).toNat = -1 ∧ σ 2 (σ 0 t).toNat - ldF Ab σ (σ 0 t) < 0 := by rw [e, Int.toNat_natCast]; exact hc
        rw [if_pos ⟨by omega, hc2⟩, if_pos ⟨by omega, hc2⟩]
        exact ⟨c0, c1⟩
      · have b0 : ¬ M 292 t = (i : Int) := by
          rw [a0]
          split <;> omega
        obtain ⟨c0, c1⟩ := d2 b0
        rw [c0, c1, a0, a1]
        have iq : (((0 ≤ σ 0 t ∧ σ 0 t < (i : Int)) ∧ (σ 3 (σ 0 t).toNat = -1 ∧ σ 2 (σ 0 t).toNat - ldF Ab σ (σ 0 t) < 0)) ↔ ((0 ≤ σ 0 t ∧ σ 0 t < ((i + 1 : Nat) : Int)) ∧ (σ 3 (σ 0 t).toNat = -1 ∧ σ 2 (σ 0 t).toNat - ldF Ab σ (σ 0 t) < 0))) := ⟨fun z => ⟨by omega, z.2⟩, fun z => ⟨by omega, z.2⟩⟩
        exact ⟨if_iff iq, if_iff iq⟩
    · by_cases e : M 292 t = (i : Int)
      · exact (d1 e).2
      · rw [(d2 e).2]; exact (h0.2 q).1
    · have a0 := (h0.2 q).2
      rw [m0] at a0 ⊢
      split at a0
      · omega
      · rw [if_neg (by omega)]; exact a0
  · have h0 := h.2 p hp
    have ep : ∀ c, 2 ≤ c → ∀ j, mxP Ab m σ j c p = if p < j then sD Ab m σ c p else σ c p := by
      intro c hc j
      unfold mxP
      rw [if_neg (by omega), if_neg (by omega)]
    rw [ep 2 (by omega), ep 3 (by omega)] at h0
    rw [ep 2 (by omega), ep 3 (by omega), f2 295 p (by omega) (by omega) (by omega)]
    by_cases e : p = i
    · subst e
      rw [if_pos (by omega), if_pos (by omega), h5, h6]
      refine ⟨rfl, ?_⟩
      show m = (if σ 3 p = -1 ∧ σ 2 p - ldF Ab σ (p : Int) < 0 then m else σ 3 p)
      rw [if_pos hc]
    · rw [f1 295 p (by omega), f2 296 p (by omega) (by omega) (by omega), f1 296 p (by omega), h0.1, h0.2]
      exact ⟨if_iff (by omega), if_iff (by omega)⟩
