/-! the reference's images -/
def pcs (j : Nat) : Nat × Nat := if j < 2 then (159, 22 + j) else if j < 82 then (256 + (j - 2) / 4, (j - 2) % 4) else (279 + (j - 82) / 3, (j - 82) % 3)
def isP (u v : Nat) : Prop := (u = 159 ∧ (v = 22 ∨ v = 23)) ∨ (256 ≤ u ∧ u ≤ 275) ∨ (279 ≤ u ∧ u ≤ 287)
theorem pcs_P {j : Nat} (h : j < 109) : isP (pcs j).1 (pcs j).2 := by
  unfold pcs isP
  by_cases h1 : j < 2
  · rw [if_pos h1]
    left
    exact ⟨rfl, by show 22 + j = 22 ∨ 22 + j = 23; omega⟩
  · rw [if_neg h1]
    by_cases h2 : j < 82
    · rw [if_pos h2]
      right; left
      show 256 ≤ 256 + (j - 2) / 4 ∧ 256 + (j - 2) / 4 ≤ 275
      omega
    · rw [if_neg h2]
      right; right
      show 279 ≤ 279 + (j - 82) / 3 ∧ 279 + (j - 82) / 3 ≤ 287
      omega
theorem pcs_lt {j n : Nat} (h : j < n) (hn : n < 109) : ¬ ((pcs j).1 = (pcs n).1 ∧ (pcs j).2 = (pcs n).2) := by
  unfold pcs
  by_cases a1 : j < 2
  · rw [if_pos a1]
    by_cases b1 : n < 2
    · rw [if_pos b1]
      show ¬ (159 = 159 ∧ 22 + j = 22 + n)
      omega
    · rw [if_neg b1]
      by_cases b2 : n < 82
      · rw [if_pos b2]
        show ¬ (159 = 256 + (n - 2) / 4 ∧ _)
        omega
      · rw [if_neg b2]
        show ¬ (159 = 279 + (n - 82) / 3 ∧ _)
        omega
  · rw [if_neg a1, if_neg (show ¬ n < 2 by omega)]
    by_cases a2 : j < 82
    · rw [if_pos a2]
      by_cases b2 : n < 82
      · rw [if_pos b2]
        show ¬ (256 + (j - 2) / 4 = 256 + (n - 2) / 4 ∧ (j - 2) % 4 = (n - 2) % 4)
        omega
      · rw [if_neg b2]
        show ¬ (256 + (j - 2) / 4 = 279 + (n - 82) / 3 ∧ _)
        omega
    · rw [if_neg a2, if_neg (show ¬ n < 82 by omega)]
      show ¬ (279 + (j - 82) / 3 = 279 + (n - 82) / 3 ∧ (j - 82) % 3 = (n - 82) % 3)
      omega
def MvI (M0 M' : Mem) (to : Nat) (back : Int) (n : Nat) : Prop := M' 159 25 = (n : Int) ∧ (∀ j, j < n → M' (pcs j).1 (pcs j).2 = M' to j) ∧ (back = 0 → ∀ u v, u ≠ to → ¬ (u = 159 ∧ v = 25) → M' u v = M0 u v) ∧ (¬ back = 0 → ∀ u v, ¬ isP u v → ¬ (u = 159 ∧ v = 25) → M' u v = M0 u v)
/-- a value moved, and put back to where it came from -/
theorem mv_step {M0 M1 M2 : Mem} {to n c sl : Nat} {back r : Int} (hto : 289 ≤ to ∧ to ≤ 291) (hn : n < 109) (hp : pcs n = (c, sl)) (h : MvI M0 M1 to back n) (hr : r = if back = 0 then M1 c sl else M1 to n)
    (h2 : ∀ u v, ¬ (u = 159 ∧ v = 25) → M2 u v = if back = 0 ∧ u = to ∧ v = n then r else M1 u v) (h25 : M2 159 25 = ((n + 1 : Nat) : Int)) : MvI M0 (up M2 c sl r) to back (n + 1) := by
  obtain ⟨a1, a2, a3, a4⟩ := h
  have hP := pcs_P hn
  rw [hp] at hP
  have hP : isP c sl := hP
  have hne : ¬ (c = 159 ∧ sl = 25) ∧ c ≠ to ∧ ¬ (c = to) := by unfold isP at hP; omega
  refine ⟨by rw [up_ne (by omega)]; exact h25, fun j hj => ?_, fun hb u v q1 q2 => ?_, fun hb u v q1 q2 => ?_⟩
  · rw [up_ne (x := to) (by omega)]
    by_cases e : j = n
    · subst e
      rw [hp, up_eq, h2 _ _ (by omega)]
      by_cases hb : back = 0
      · rw [if_pos ⟨hb, rfl, rfl⟩]
      · rw [if_neg (fun z => hb z.1), hr, if_neg hb]
    · have hl := pcs_lt (show j < n by omega) hn
      rw [hp] at hl
      have hPj := pcs_P (show j < 109 by omega)
      unfold isP at hPj
      rw [up_ne hl, h2 _ _ (by omega), h2 _ _ (by omega), if_neg (by omega), if_neg (by omega)]
      exact a2 j (by omega)
  · by_cases e : u = c ∧ v = sl
    · rw [e.1, e.2, up_eq, hr, if_pos hb]
      exact a3 hb c sl (by omega) (by omega)
    · rw [up_ne e, h2 u v q2, if_neg (by omega)]
      exact a3 hb u v q1 q2
  · have e : ¬ (u = c ∧ v = sl) := fun z => q1 (by rw [z.1, z.2]; exact hP)
    rw [up_ne e, h2 u v q2, if_neg (fun z => hb z.1)]
    exact a4 hb u v q1 q2
def G_X11_moves : FN := fun as M Q => match as with
  | [.inr (.inl k), .inr (.inl to), .inl v, .inl back] => ∃ n : Nat, (k = 159 ∧ (289 ≤ to ∧ to ≤ 291) ∧ n < 120 ∧ M 159 25 = (n : Int)) ∧ ∀ (M' : Mem) (r : Int), r = (if back = 0 then v else M to n) → (∀ u v, ¬ (u = 159 ∧ v = 25) → M' u v = if back = 0 ∧ u = to ∧ v = n then r else M u v) → M' 159 25 = ((n + 1 : Nat) : Int) → Q (some (vI r)) M'
  | _ => False
def G_X11_movesAll : FN := fun as M Q => match as with
  | [.inr (.inl k), .inr (.inl to), .inl back] => (k = 159 ∧ (289 ≤ to ∧ to ≤ 291)) ∧ ∀ M' : Mem, MvI M M' to back 109 → Q none M'
  | _ => False
def b_X11_moves_0 : List AT := [tx_il 3, tx_ifz r_ne 11, tx_al 1, tx_al 0, tx_gi 11 25, tx_il 2, tx_iax, tx_fall 11]
def b_X11_moves_11 : List AT := [tx_al 0, tx_dup, tx_gi 11 25, tx_ic 1, tx_bin f_add, tx_pi 11 25, tx_al 1, tx_al 0, tx_gi 11 25, tx_ic 1, tx_bin f_sub, tx_ia, tx_ri]
def R_X11_moves (J : JT) (Q : QT) : Prop := (∀ ls st M, wpl J Q b_X11_moves_0 ls st M → J 0 ls st M) ∧ (∀ ls st M, wpl J Q b_X11_moves_11 ls st M → J 11 ls st M)
theorem R_X11_moves_0 {J : JT} {Q : QT} (R : R_X11_moves J Q) {ls : Ls} {st : St} {M : Mem} (h : wpl J Q b_X11_moves_0 ls st M) : J 0 ls st M := R.1 ls st M h
theorem R_X11_moves_11 {J : JT} {Q : QT} (R : R_X11_moves J Q) {ls : Ls} {st : St} {M : Mem} (h : wpl J Q b_X11_moves_11 ls st M) : J 11 ls st M := R.2 ls st M h
def b_X11_movesAll_0 : List AT := [tx_al 0, tx_ic 0, tx_pi 11 25, tx_al 0, tx_al 0, tx_al 1, tx_al 0, tx_gi 11 22, tx_il 2, tx_callv 11 (nf G_X11_moves) 3, tx_pi 11 22, tx_al 0, tx_al 0, tx_al 1, tx_al 0, tx_gi 11 23, tx_il 2, tx_callv 11 (nf G_X11_moves) 3, tx_pi 11 23, tx_ic 0, tx_is 3, tx_fall 35]
def b_X11_movesAll_35 : List AT := [tx_il 3, tx_ic 20, tx_cmp r_ge 86, tx_ic 0, tx_is 4, tx_fall 44]
def b_X11_movesAll_44 : List AT := [tx_il 4, tx_ic 4, tx_cmp r_ge 80, tx_al 0, tx_gr 11 96, tx_il 3, tx_aa 5, tx_il 4, tx_al 0, tx_al 1, tx_al 0, tx_gr 11 96, tx_il 3, tx_aa 5, tx_il 4, tx_ia, tx_il 2, tx_callv 11 (nf G_X11_moves) 3, tx_iax, tx_inc 4 1, tx_fall 44]
def b_X11_movesAll_80 : List AT := [tx_inc 3 1, tx_fall 35]
def b_X11_movesAll_86 : List AT := [tx_ic 0, tx_is 3, tx_fall 88]
def b_X11_movesAll_88 : List AT := [tx_il 3, tx_ic 9, tx_cmp r_ge 139, tx_ic 0, tx_is 4, tx_fall 97]
def b_X11_movesAll_97 : List AT := [tx_il 4, tx_ic 3, tx_cmp r_ge 133, tx_al 0, tx_gr 11 119, tx_il 3, tx_aa 5, tx_il 4, tx_al 0, tx_al 1, tx_al 0, tx_gr 11 119, tx_il 3, tx_aa 5, tx_il 4, tx_ia, tx_il 2, tx_callv 11 (nf G_X11_moves) 3, tx_iax, tx_inc 4 1, tx_fall 97]
def b_X11_movesAll_133 : List AT := [tx_inc 3 1, tx_fall 88]
def b_X11_movesAll_139 : List AT := [tx_rv]
def R_X11_movesAll (J : JT) (Q : QT) : Prop := (∀ ls st M, wpl J Q b_X11_movesAll_0 ls st M → J 0 ls st M) ∧ (∀ ls st M, wpl J Q b_X11_movesAll_35 ls st M → J 35 ls st M) ∧ (∀ ls st M, wpl J Q b_X11_movesAll_44 ls st M → J 44 ls st M) ∧ (∀ ls st M, wpl J Q b_X11_movesAll_80 ls st M → J 80 ls st M) ∧ (∀ ls st M, wpl J Q b_X11_movesAll_86 ls st M → J 86 ls st M) ∧ (∀ ls st M, wpl J Q b_X11_movesAll_88 ls st M → J 88 ls st M) ∧ (∀ ls st M, wpl J Q b_X11_movesAll_97 ls st M → J 97 ls st M) ∧ (∀ ls st M, wpl J Q b_X11_movesAll_133 ls st M → J 133 ls st M) ∧ (∀ ls st M, wpl J Q b_X11_movesAll_139 ls st M → J 139 ls st M)
theorem R_X11_movesAll_0 {J : JT} {Q : QT} (R : R_X11_movesAll J Q) {ls : Ls} {st : St} {M : Mem} (h : wpl J Q b_X11_movesAll_0 ls st M) : J 0 ls st M := R.1 ls st M h
theorem R_X11_movesAll_35 {J : JT} {Q : QT} (R : R_X11_movesAll J Q) {ls : Ls} {st : St} {M : Mem} (h : wpl J Q b_X11_movesAll_35 ls st M) : J 35 ls st M := R.2.1 ls st M h
theorem R_X11_movesAll_44 {J : JT} {Q : QT} (R : R_X11_movesAll J Q) {ls : Ls} {st : St} {M : Mem} (h : wpl J Q b_X11_movesAll_44 ls st M) : J 44 ls st M := R.2.2.1 ls st M h
theorem R_X11_movesAll_80 {J : JT} {Q : QT} (R : R_X11_movesAll J Q) {ls : Ls} {st : St} {M : Mem} (h : wpl J Q b_X11_movesAll_80 ls st M) : J 80 ls st M := R.2.2.2.1 ls st M h
theorem R_X11_movesAll_86 {J : JT} {Q : QT} (R : R_X11_movesAll J Q) {ls : Ls} {st : St} {M : Mem} (h : wpl J Q b_X11_movesAll_86 ls st M) : J 86 ls st M := R.2.2.2.2.1 ls st M h
theorem R_X11_movesAll_88 {J : JT} {Q : QT} (R : R_X11_movesAll J Q) {ls : Ls} {st : St} {M : Mem} (h : wpl J Q b_X11_movesAll_88 ls st M) : J 88 ls st M := R.2.2.2.2.2.1 ls st M h
theorem R_X11_movesAll_97 {J : JT} {Q : QT} (R : R_X11_movesAll J Q) {ls : Ls} {st : St} {M : Mem} (h : wpl J Q b_X11_movesAll_97 ls st M) : J 97 ls st M := R.2.2.2.2.2.2.1 ls st M h
theorem R_X11_movesAll_133 {J : JT} {Q : QT} (R : R_X11_movesAll J Q) {ls : Ls} {st : St} {M : Mem} (h : wpl J Q b_X11_movesAll_133 ls st M) : J 133 ls st M := R.2.2.2.2.2.2.2.1 ls st M h
theorem R_X11_movesAll_139 {J : JT} {Q : QT} (R : R_X11_movesAll J Q) {ls : Ls} {st : St} {M : Mem} (h : wpl J Q b_X11_movesAll_139 ls st M) : J 139 ls st M := R.2.2.2.2.2.2.2.2 ls st M h
theorem sh_ke : ∀ i, i < 3 → SH (289 + i) = (1, 120, 0, 0) := by decide
theorem P_X11_moves {J : JT} {Q : QT} (R : R_X11_moves J Q) {as : List Vl} {M : Mem} (h : nf G_X11_moves as M Q) : (enL as).length ≤ 4 ∧ J 0 (padL 4 (enL as)) [] M := by
  unfold nf G_X11_moves at h
  split at h
  · rename_i k to v back
    obtain ⟨n, ⟨rfl, ht, hn, h25⟩, hQ⟩ := h
    have sh : SH to = (1, 120, 0, 0) := by
      have := sh_ke (to - 289) (by omega)
      rw [show 289 + (to - 289) = to by omega] at this
      exact this
    have e1 : f_add (n : Int) 1 = ((n + 1 : Nat) : Int) := w1 (by omega) (by omega) (by omega)
    have e2 : f_sub ((n + 1 : Nat) : Int) 1 = (n : Int) := w1 (by omega) (by omega) (by omega)
    have fin : ∀ M1 : Mem, M1 159 25 = (n : Int) → (∀ u w, ¬ (u = 159 ∧ w = 25) → M1 u w = if back = 0 ∧ u = to ∧ w = n then (if back = 0 then v else M to n) else M u w) → J 11 [some (vR 159), some (vR to), some (vI v), some (vI back)] [] M1 := by
      intro M1 g1 g2
      refine R_X11_moves_11 R (an o159 (an o159 (an o159 ?_)))
      show AK 1 to (f_sub (up M1 159 25 (f_add (M1 159 25) 1) 159 25) 1) ∧ Q (.inl (some (vI (up M1 159 25 (f_add (M1 159 25) 1) to (f_sub (up M1 159 25 (f_add (M1 159 25) 1) 159 25) 1).toNat)))) (up M1 159 25 (f_add (M1 159 25) 1))
      rw [up_eq, g1, e1, e2, Int.toNat_natCast, up_ne (by omega)]
      clear e1 e2
      have er : M1 to n = if back = 0 then v else M to n := by
        rw [g2 _ _ (by omega)]
        by_cases hb : back = 0
        · rw [if_pos ⟨hb, rfl, rfl⟩]
        · rw [if_neg (fun z => hb z.1), if_neg hb]
      refine ⟨ak_of sh (by omega) (by omega), hQ _ _ er (fun u w q => ?_) up_eq⟩
      rw [up_ne q, er]
      exact g2 u w q
    refine ⟨Nat.le_of_ble_eq_true rfl, R_X11_moves_0 R (br (fun g => fin M h25 (fun u w q => ?_)) (fun g => an o159 ?_))⟩
    · rw [if_neg (fun z => g z.1)]
    · have g : back = 0 := Classical.not_not.mp g
      show AK 1 to (M 159 25) ∧ J 11 _ _ (up M to (M 159 25).toNat v)
      rw [h25, Int.toNat_natCast]
      refine ⟨ak_of sh (by omega) (by omega), fin _ ?_ (fun u w q => ?_)⟩
      · rw [up_ne (by omega)]; exact h25
      · by_cases e : u = to ∧ w = n
        · rw [e.1, e.2, up_eq, if_pos ⟨g, rfl, rfl⟩, if_pos g]
        · rw [up_ne e, if_neg (fun z => e z.2)]
  · exact h.elim
theorem P_X11_movesAll {J : JT} {Q : QT} (R : R_X11_movesAll J Q) {as : List Vl} {M : Mem} (h : nf G_X11_movesAll as M Q) : (enL as).length ≤ 5 ∧ J 0 (padL 5 (enL as)) [] M := by
  unfold nf G_X11_movesAll at h
  split at h
  · rename_i k to back
    obtain ⟨⟨rfl, ht⟩, hQ⟩ := h
    have key2 : ∀ a : Nat, a ≤ 9 → ∀ (x : Int) (M' : Mem) (z4 : Option Vl), x = (a : Int) → MvI M M' to back (82 + 3 * a) → J 88 [some (vR 159), some (vR to), some (vI back), some (vI x), z4] [] M' := by
      refine dn ?_ ?_
      · intro x M' z4 hx hi
        exact R_X11_movesAll_88 R (bt (show (9 : Int) ≤ x by omega) (R_X11_movesAll_139 R (hQ M' hi)))
      · intro a ha ih x M' z4 hx hi
        have hxn : x.toNat = a := by omega
        have inner : ∀ b : Nat, b ≤ 3 → ∀ (y : Int) (M' : Mem), y = (b : Int) → MvI M M' to back (82 + 3 * a + b) → J 97 [some (vR 159), some (vR to), some (vI back), some (vI x), some (vI y)] [] M' := by
          refine dn ?_ ?_
          · intro y M' hy hi
            exact R_X11_movesAll_97 R (bt (show (3 : Int) ≤ y by omega) (R_X11_movesAll_133 R (ih _ _ _ (wn hx (by omega)) (by rw [show 82 + 3 * (a + 1) = 82 + 3 * a + 3 by omega]; exact hi))))
          · intro b hb ihb y M' hy hi
            have hyn : y.toNat = b := by omega
            refine R_X11_movesAll_97 R (bf (show ¬ (3 : Int) ≤ y by omega) (an o159 (an (ak_of sh278 (by omega) (by omega)) ?_)))
            rw [vo_row hxn]
            refine an o159 (an (ak_of sh278 (by omega) (by omega)) ?_)
            rw [vo_row hxn]
            refine an (ak_of (sh_vo a (by omega)) (by omega) (by omega)) (an o159 ⟨82 + 3 * a + b, ⟨rfl, ht, by omega, hi.1⟩, fun M2 r hr h2 h25 => an (ak_of (sh_vo a (by omega)) (by omega) (by omega)) (ihb _ _ (wn hy (by omega)) ?_)⟩)
            rw [hyn] at hr ⊢
            refine mv_step (n := 82 + 3 * a + b) ht (by omega) ?_ hi hr h2 h25
            unfold pcs
            rw [if_neg (by omega), if_neg (by omega), show 82 + 3 * a + b - 82 = 3 * a + b by omega]
            have q1 : (3 * a + b) / 3 = a := by omega
            have q2 : (3 * a + b) % 3 = b := by omega
            rw [q1, q2]
        exact R_X11_movesAll_88 R (bf (show ¬ (9 : Int) ≤ x by omega) (inner 0 (Nat.zero_le _) _ _ rfl hi))
    have key1 : ∀ a : Nat, a ≤ 20 → ∀ (x : Int) (M' : Mem) (z4 : Option Vl), x = (a : Int) → MvI M M' to back (2 + 4 * a) → J 35 [some (vR 159), some (vR to), some (vI back), some (vI x), z4] [] M' := by
      refine dn ?_ ?_
      · intro x M' z4 hx hi
        exact R_X11_movesAll_35 R (bt (show (20 : Int) ≤ x by omega) (R_X11_movesAll_86 R (key2 0 (Nat.zero_le _) _ _ _ rfl hi)))
      · intro a ha ih x M' z4 hx hi
        have hxn : x.toNat = a := by omega
        have inner : ∀ b : Nat, b ≤ 4 → ∀ (y : Int) (M' : Mem), y = (b : Int) → MvI M M' to back (2 + 4 * a + b) → J 44 [some (vR 159), some (vR to), some (vI back), some (vI x), some (vI y)] [] M' := by
          refine dn ?_ ?_
          · intro y M' hy hi
            exact R_X11_movesAll_44 R (bt (show (4 : Int) ≤ y by omega) (R_X11_movesAll_80 R (ih _ _ _ (wn hx (by omega)) (by rw [show 2 + 4 * (a + 1) = 2 + 4 * a + 4 by omega]; exact hi))))
          · intro b hb ihb y M' hy hi
            have hyn : y.toNat = b := by omega
            refine R_X11_movesAll_44 R (bf (show ¬ (4 : Int) ≤ y by omega) (an o159 (an (ak_of sh255 (by omega) (by omega)) ?_)))
            rw [le_row hxn]
            refine an o159 (an (ak_of sh255 (by omega) (by omega)) ?_)
            rw [le_row hxn]
            refine an (ak_of (sh_le a (by omega)) (by omega) (by omega)) (an o159 ⟨2 + 4 * a + b, ⟨rfl, ht, by omega, hi.1⟩, fun M2 r hr h2 h25 => an (ak_of (sh_le a (by omega)) (by omega) (by omega)) (ihb _ _ (wn hy (by omega)) ?_)⟩)
            rw [hyn] at hr ⊢
            refine mv_step (n := 2 + 4 * a + b) ht (by omega) ?_ hi hr h2 h25
            unfold pcs
            rw [if_neg (by omega), if_pos (by omega), show 2 + 4 * a + b - 2 = 4 * a + b by omega]
            have q1 : (4 * a + b) / 4 = a := by omega
            have q2 : (4 * a + b) % 4 = b := by omega
            rw [q1, q2]
        exact R_X11_movesAll_35 R (bf (show ¬ (20 : Int) ≤ x by omega) (inner 0 (Nat.zero_le _) _ _ rfl hi))
    have i0 : MvI M (up M 159 25 0) to back 0 := ⟨up_eq, fun j hj => absurd hj (Nat.not_lt_zero j), fun _ u v _ q => up_ne q, fun _ u v _ q => up_ne q⟩
    refine ⟨Nat.le_of_ble_eq_true rfl, R_X11_movesAll_0 R (an o159 (an o159 (an o159 ⟨0, ⟨rfl, ht, by decide, i0.1⟩, fun M2 r hr h2 h25 => an o159 (an o159 (an o159 ?_))⟩)))⟩
    have i1 := mv_step ht (by decide) (rfl : pcs 0 = (159, 22)) i0 hr h2 h25
    generalize hM3 : up M2 159 22 r = M3 at i1
    show nf G_X11_moves _ M3 _
    refine ⟨1, ⟨rfl, ht, by decide, i1.1⟩, fun M4 r2 hr2 h4 h45 => an o159 (key1 0 (Nat.zero_le _) _ _ _ rfl ?_)⟩
    exact mv_step ht (by decide) (rfl : pcs 1 = (159, 23)) i1 hr2 h4 h45

  · exact h.elim