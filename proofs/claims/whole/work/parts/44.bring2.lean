def G_X1_chooseThings : FN := fun as M Q => match as with
  | [.inr (.inl k), .inr (.inl pl), .inl d] => ∃ Ab, k = 122 ∧ PL M pl Ab ∧ ∀ (M' : Mem) (L : Nat → Nat) (n : Nat), (∀ u v, u ≠ 123 → ¬ (u = 122 ∧ v = 0) → M' u v = M u v) → LineOK Ab d (nT Ab) L n → n ≤ 14 → M' 122 0 = (n : Int) → (∀ i, i < n → M' 123 i = (L i : Int)) → Q none M'
  | _ => False
def G_X1_takeIn : FN := fun as M Q => match as with
  | [.inr (.inl k), .inr (.inl pl), .inl t, .inl al] => ∃ Ab, k = 122 ∧ PL M pl Ab ∧ (0 ≤ t ∧ t < Ab 10 2) ∧ (0 ≤ al ∧ al ≤ 1386) ∧ (∀ x, x ≤ al.toNat → 0 ≤ M 124 x ∧ M 124 x ≤ 1000000) ∧
      ∀ M' : Mem, (∀ u v, u ≠ 124 → M' u v = M u v) → (∀ x : Nat, x ≤ al.toNat → M' 124 x = if Ab 1 t.toNat ≤ (x : Int) ∧ M 124 (x - (Ab 1 t.toNat).toNat) ≠ 1000000 then min (M 124 x) (max (M 124 (x - (Ab 1 t.toNat).toNat)) (Ab 3 t.toNat) + passF Ab t.toNat) else M 124 x) → Q none M'
  | _ => False
def G_X1_mostPounds : FN := fun as M Q => match as with
  | [.inr (.inl k), .inr (.inl pl), .inl d, .inl mi] => ∃ Ab, k = 122 ∧ PL M pl Ab ∧ (0 ≤ mi ∧ mi ≤ 999) ∧ ∀ (M' : Mem) (v : Int), (∀ u v, (u < 122 ∨ 124 < u) → M' u v = M u v) → BrV Ab d mi v → Q (some (vI v)) M'
  | _ => False
def b_X1_chooseThings_0 : List AT := [tx_al 0, tx_ic 0, tx_pi 1 0, tx_ic 0, tx_is 3, tx_fall 7]
def b_X1_chooseThings_7 : List AT := [tx_il 3, tx_al 1, tx_gi 6 3, tx_cmp r_ge 114, tx_al 1, tx_gr 6 5, tx_il 3, tx_ia, tx_il 2, tx_cmp r_ne 108, tx_al 0, tx_gi 1 0, tx_ic 14, tx_cmp r_ge 108, tx_al 0, tx_gi 1 0, tx_is 4, tx_fall 40]
def b_X1_chooseThings_40 : List AT := tx_il 4 :: tx_ifz r_le 90 :: tx_al 1 :: tx_gr 6 6 :: tx_al 0 :: tx_gr 1 1 :: tx_il 4 :: tx_ic 1 :: tx_bin f_sub :: tx_ia :: tx_ia :: tx_al 1 :: tx_gr 6 6 :: tx_il 3 :: tx_ia :: tx_cmp r_le 90 :: tx_al 0 :: tx_gr 1 1 :: tx_il 4 :: tx_al 0 :: tx_gr 1 1 :: tx_il 4 :: tx_ic 1 :: tx_bin f_sub :: tx_ia :: tx_iax :: tx_inc 4 (-1) :: tx_fall 40 :: []
def b_X1_chooseThings_90 : List AT := [tx_al 0, tx_gr 1 1, tx_il 4, tx_il 3, tx_iax, tx_al 0, tx_dup, tx_gi 1 0, tx_ic 1, tx_bin f_add, tx_pi 1 0, tx_fall 108]
def b_X1_chooseThings_108 : List AT := [tx_inc 3 1, tx_fall 7]
def b_X1_chooseThings_114 : List AT := [tx_rv]
def R_X1_chooseThings (J : JT) (Q : QT) : Prop := (∀ ls st M, wpl J Q b_X1_chooseThings_0 ls st M → J 0 ls st M) ∧ (∀ ls st M, wpl J Q b_X1_chooseThings_7 ls st M → J 7 ls st M) ∧ (∀ ls st M, wpl J Q b_X1_chooseThings_40 ls st M → J 40 ls st M) ∧ (∀ ls st M, wpl J Q b_X1_chooseThings_90 ls st M → J 90 ls st M) ∧ (∀ ls st M, wpl J Q b_X1_chooseThings_108 ls st M → J 108 ls st M) ∧ (∀ ls st M, wpl J Q b_X1_chooseThings_114 ls st M → J 114 ls st M)
theorem R_X1_chooseThings_0 {J : JT} {Q : QT} (R : R_X1_chooseThings J Q) {ls : Ls} {st : St} {M : Mem} (h : wpl J Q b_X1_chooseThings_0 ls st M) : J 0 ls st M := R.1 ls st M h
theorem R_X1_chooseThings_7 {J : JT} {Q : QT} (R : R_X1_chooseThings J Q) {ls : Ls} {st : St} {M : Mem} (h : wpl J Q b_X1_chooseThings_7 ls st M) : J 7 ls st M := R.2.1 ls st M h
theorem R_X1_chooseThings_40 {J : JT} {Q : QT} (R : R_X1_chooseThings J Q) {ls : Ls} {st : St} {M : Mem} (h : wpl J Q b_X1_chooseThings_40 ls st M) : J 40 ls st M := R.2.2.1 ls st M h
theorem R_X1_chooseThings_90 {J : JT} {Q : QT} (R : R_X1_chooseThings J Q) {ls : Ls} {st : St} {M : Mem} (h : wpl J Q b_X1_chooseThings_90 ls st M) : J 90 ls st M := R.2.2.2.1 ls st M h
theorem R_X1_chooseThings_108 {J : JT} {Q : QT} (R : R_X1_chooseThings J Q) {ls : Ls} {st : St} {M : Mem} (h : wpl J Q b_X1_chooseThings_108 ls st M) : J 108 ls st M := R.2.2.2.2.1 ls st M h
theorem R_X1_chooseThings_114 {J : JT} {Q : QT} (R : R_X1_chooseThings J Q) {ls : Ls} {st : St} {M : Mem} (h : wpl J Q b_X1_chooseThings_114 ls st M) : J 114 ls st M := R.2.2.2.2.2 ls st M h
def b_X1_takeIn_0 : List AT := [tx_al 1, tx_gr 6 4, tx_il 2, tx_ia, tx_is 4, tx_il 3, tx_is 5, tx_fall 11]
def b_X1_takeIn_11 : List AT := tx_il 5 :: tx_il 4 :: tx_cmp r_lt 85 :: tx_al 0 :: tx_gr 1 2 :: tx_il 5 :: tx_il 4 :: tx_bin f_sub :: tx_ia :: tx_ic 1000000 :: tx_cmp r_eq 79 :: tx_al 0 :: tx_gr 1 2 :: tx_il 5 :: tx_il 4 :: tx_bin f_sub :: tx_ia :: tx_al 1 :: tx_gr 6 6 :: tx_il 2 :: tx_ia :: tx_call (nf G_J9_max_7cf53) 2 :: tx_al 1 :: tx_il 2 :: tx_callv 6 (nf G_X6_passage) 1 :: tx_bin f_add :: tx_is 6 :: tx_al 0 :: tx_gr 1 2 :: tx_il 5 :: tx_al 0 :: tx_gr 1 2 :: tx_il 5 :: tx_ia :: tx_il 6 :: tx_call (nf G_J9_min_7cf53) 2 :: tx_iax :: tx_fall 79 :: []
def b_X1_takeIn_79 : List AT := [tx_inc 5 (-1), tx_fall 11]
def b_X1_takeIn_85 : List AT := [tx_rv]
def R_X1_takeIn (J : JT) (Q : QT) : Prop := (∀ ls st M, wpl J Q b_X1_takeIn_0 ls st M → J 0 ls st M) ∧ (∀ ls st M, wpl J Q b_X1_takeIn_11 ls st M → J 11 ls st M) ∧ (∀ ls st M, wpl J Q b_X1_takeIn_79 ls st M → J 79 ls st M) ∧ (∀ ls st M, wpl J Q b_X1_takeIn_85 ls st M → J 85 ls st M)
theorem R_X1_takeIn_0 {J : JT} {Q : QT} (R : R_X1_takeIn J Q) {ls : Ls} {st : St} {M : Mem} (h : wpl J Q b_X1_takeIn_0 ls st M) : J 0 ls st M := R.1 ls st M h
theorem R_X1_takeIn_11 {J : JT} {Q : QT} (R : R_X1_takeIn J Q) {ls : Ls} {st : St} {M : Mem} (h : wpl J Q b_X1_takeIn_11 ls st M) : J 11 ls st M := R.2.1 ls st M h
theorem R_X1_takeIn_79 {J : JT} {Q : QT} (R : R_X1_takeIn J Q) {ls : Ls} {st : St} {M : Mem} (h : wpl J Q b_X1_takeIn_79 ls st M) : J 79 ls st M := R.2.2.1 ls st M h
theorem R_X1_takeIn_85 {J : JT} {Q : QT} (R : R_X1_takeIn J Q) {ls : Ls} {st : St} {M : Mem} (h : wpl J Q b_X1_takeIn_85 ls st M) : J 85 ls st M := R.2.2.2 ls st M h
def b_X1_mostPounds_0 : List AT := [tx_al 0, tx_al 1, tx_il 2, tx_callv 1 (nf G_X1_chooseThings) 2, tx_ic 0, tx_is 4, tx_al 0, tx_gr 1 2, tx_ic 0, tx_ic 0, tx_iax, tx_ic 0, tx_is 5, tx_fall 19]
def b_X1_mostPounds_19 : List AT := [tx_il 5, tx_al 0, tx_gi 1 0, tx_cmp r_ge 114, tx_al 1, tx_gr 6 4, tx_al 0, tx_gr 1 1, tx_il 5, tx_ia, tx_ia, tx_is 6, tx_il 4, tx_ic 1, tx_bin f_add, tx_is 7, tx_fall 48]
def b_X1_mostPounds_48 : List AT := [tx_il 7, tx_il 4, tx_il 6, tx_bin f_add, tx_cmp r_gt 81, tx_il 7, tx_ic 1386, tx_cmp r_gt 81, tx_al 0, tx_gr 1 2, tx_il 7, tx_ic 1000000, tx_iax, tx_inc 7 1, tx_fall 48]
def b_X1_mostPounds_81 : List AT := [tx_il 4, tx_il 6, tx_bin f_add, tx_ic 1386, tx_call (nf G_J9_min_7cf53) 2, tx_is 4, tx_al 0, tx_al 1, tx_al 0, tx_gr 1 1, tx_il 5, tx_ia, tx_il 4, tx_callv 1 (nf G_X1_takeIn) 3, tx_inc 5 1, tx_fall 19]
def b_X1_mostPounds_114 : List AT := [tx_il 4, tx_is 5, tx_fall 118]
def b_X1_mostPounds_118 : List AT := [tx_il 5, tx_ifz r_le 143, tx_al 0, tx_gr 1 2, tx_il 5, tx_ia, tx_il 3, tx_cmp r_gt 137, tx_il 5, tx_ri]
def b_X1_mostPounds_137 : List AT := [tx_inc 5 (-1), tx_fall 118]
def b_X1_mostPounds_143 : List AT := [tx_ic 0, tx_ri]
def R_X1_mostPounds (J : JT) (Q : QT) : Prop := (∀ ls st M, wpl J Q b_X1_mostPounds_0 ls st M → J 0 ls st M) ∧ (∀ ls st M, wpl J Q b_X1_mostPounds_19 ls st M → J 19 ls st M) ∧ (∀ ls st M, wpl J Q b_X1_mostPounds_48 ls st M → J 48 ls st M) ∧ (∀ ls st M, wpl J Q b_X1_mostPounds_81 ls st M → J 81 ls st M) ∧ (∀ ls st M, wpl J Q b_X1_mostPounds_114 ls st M → J 114 ls st M) ∧ (∀ ls st M, wpl J Q b_X1_mostPounds_118 ls st M → J 118 ls st M) ∧ (∀ ls st M, wpl J Q b_X1_mostPounds_137 ls st M → J 137 ls st M) ∧ (∀ ls st M, wpl J Q b_X1_mostPounds_143 ls st M → J 143 ls st M)
theorem R_X1_mostPounds_0 {J : JT} {Q : QT} (R : R_X1_mostPounds J Q) {ls : Ls} {st : St} {M : Mem} (h : wpl J Q b_X1_mostPounds_0 ls st M) : J 0 ls st M := R.1 ls st M h
theorem R_X1_mostPounds_19 {J : JT} {Q : QT} (R : R_X1_mostPounds J Q) {ls : Ls} {st : St} {M : Mem} (h : wpl J Q b_X1_mostPounds_19 ls st M) : J 19 ls st M := R.2.1 ls st M h
theorem R_X1_mostPounds_48 {J : JT} {Q : QT} (R : R_X1_mostPounds J Q) {ls : Ls} {st : St} {M : Mem} (h : wpl J Q b_X1_mostPounds_48 ls st M) : J 48 ls st M := R.2.2.1 ls st M h
theorem R_X1_mostPounds_81 {J : JT} {Q : QT} (R : R_X1_mostPounds J Q) {ls : Ls} {st : St} {M : Mem} (h : wpl J Q b_X1_mostPounds_81 ls st M) : J 81 ls st M := R.2.2.2.1 ls st M h
theorem R_X1_mostPounds_114 {J : JT} {Q : QT} (R : R_X1_mostPounds J Q) {ls : Ls} {st : St} {M : Mem} (h : wpl J Q b_X1_mostPounds_114 ls st M) : J 114 ls st M := R.2.2.2.2.1 ls st M h
theorem R_X1_mostPounds_118 {J : JT} {Q : QT} (R : R_X1_mostPounds J Q) {ls : Ls} {st : St} {M : Mem} (h : wpl J Q b_X1_mostPounds_118 ls st M) : J 118 ls st M := R.2.2.2.2.2.1 ls st M h
theorem R_X1_mostPounds_137 {J : JT} {Q : QT} (R : R_X1_mostPounds J Q) {ls : Ls} {st : St} {M : Mem} (h : wpl J Q b_X1_mostPounds_137 ls st M) : J 137 ls st M := R.2.2.2.2.2.2.1 ls st M h
theorem R_X1_mostPounds_143 {J : JT} {Q : QT} (R : R_X1_mostPounds J Q) {ls : Ls} {st : St} {M : Mem} (h : wpl J Q b_X1_mostPounds_143 ls st M) : J 143 ls st M := R.2.2.2.2.2.2.2 ls st M h
theorem o122 : OB 122 1 := ⟨rfl, rfl⟩
theorem sh123 : SH 123 = (1, 14, 0, 0) := rfl
theorem sh124 : SH 124 = (1, 1387, 0, 0) := rfl
theorem sub1 {y : Int} (h : 0 < y) (h2 : y < 100000) : f_sub y 1 = y - 1 := w1 (by omega) (by omega) rfl
theorem line_ins {Ab : Mem} {d : Int} {L : Nat → Nat} {n i p : Nat} (ho : HallOK Ab) (hi : i < nT Ab) (h : LineOK Ab d i L n) (hd : Ab 2 i = d) (hp : p ≤ n) (h1 : 0 < p → Ab 3 (L (p - 1)) ≤ Ab 3 i) (h2 : ∀ j, p ≤ j → j < n → Ab 3 i < Ab 3 (L j)) :
    LineOK Ab d (i + 1) (fun j => if j < p then L j else if j = p then i else L (j - 1)) (n + 1) := by
  obtain ⟨a1, a2, a3⟩ := h
  have h14 := (nT_le ho).1
  have lo : ∀ j, j < p → keyT Ab (L j) < keyT Ab i := by
    intro j hj
    have b1 := (a1 (p - 1) (by omega)).1
    have b2 : keyT Ab (L (p - 1)) < keyT Ab i := by have := h1 (by omega); unfold keyT; omega
    by_cases e : j = p - 1
    · subst e; exact b2
    · have := a2 j (p - 1) (by omega) (by omega)
      omega
  have up' : ∀ j, p ≤ j → j < n → keyT Ab i < keyT Ab (L j) := by
    intro j hj hn
    have := h2 j hj hn
    unfold keyT
    omega
  refine ⟨fun j hj => ?_, fun a b hab hb => ?_, fun t ht htd => ?_⟩
  · show (if j < p then L j else if j = p then i else L (j - 1)) < i + 1 ∧ Ab 2 (if j < p then L j else if j = p then i else L (j - 1)) = d
    by_cases q : j < p
    · rw [if_pos q]; have := a1 j (by omega); exact ⟨by omega, this.2⟩
    · rw [if_neg q]
      by_cases e : j = p
      · rw [if_pos e]; exact ⟨by omega, hd⟩
      · rw [if_neg e]; have := a1 (j - 1) (by omega); exact ⟨by omega, this.2⟩
  · show keyT Ab (if a < p then L a else if a = p then i else L (a - 1)) < keyT Ab (if b < p then L b else if b = p then i else L (b - 1))
    by_cases q : a < p
    · rw [if_pos q]
      by_cases q2 : b < p
      · rw [if_pos q2]; exact a2 a b hab (by omega)
      · rw [if_neg q2]
        by_cases e : b = p
        · rw [if_pos e]; exact lo a q
        · rw [if_neg e]; exact a2 a (b - 1) (by omega) (by omega)
    · rw [if_neg q, if_neg (show ¬ b < p by omega), if_neg (show ¬ b = p by omega)]
      by_cases e : a = p
      · rw [if_pos e]; exact up' (b - 1) (by omega) (by omega)
      · rw [if_neg e]; exact a2 (a - 1) (b - 1) (by omega) (by omega)
  · by_cases e : t = i
    · exact ⟨p, by omega, by show (if p < p then L p else if p = p then i else L (p - 1)) = t; rw [if_neg (by omega), if_pos rfl]; exact e.symm⟩
    · obtain ⟨j, j1, j2⟩ := a3 t (by omega) htd
      by_cases q : j < p
      · exact ⟨j, by omega, by show (if j < p then L j else if j = p then i else L (j - 1)) = t; rw [if_pos q]; exact j2⟩
      · exact ⟨j + 1, by omega, by show (if j + 1 < p then L (j + 1) else if j + 1 = p then i else L (j + 1 - 1)) = t; rw [if_neg (by omega), if_neg (by omega)]; exact j2⟩
theorem line_skip {Ab : Mem} {d : Int} {L : Nat → Nat} {n i : Nat} (h : LineOK Ab d i L n) (hd : ¬ Ab 2 i = d) : LineOK Ab d (i + 1) L n := by
  obtain ⟨a1, a2, a3⟩ := h
  refine ⟨fun j hj => ⟨by have := (a1 j hj).1; omega, (a1 j hj).2⟩, a2, fun t ht htd => ?_⟩
  by_cases e : t = i
  · subst e; exact absurd htd hd
  · exact a3 t (by omega) htd
theorem P_X1_chooseThings {J : JT} {Q : QT} (R : R_X1_chooseThings J Q) {as : List Vl} {M : Mem} (h : nf G_X1_chooseThings as M Q) : (enL as).length ≤ 5 ∧ J 0 (padL 5 (enL as)) [] M := by
  unfold nf G_X1_chooseThings at h
  split at h
  · rename_i k pl d
    obtain ⟨Ab, rfl, ⟨hk, hp, ho⟩, hQ⟩ := h
    have hl := pl_117 hk
    obtain ⟨n1, n2⟩ := nT_le ho
    have hpk : ∀ M' : Mem, (∀ u v, u ≠ 123 → ¬ (u = 122 ∧ v = 0) → M' u v = M u v) → PlanRel M' pl Ab := fun M' h1 => hp.kept (fun u v q1 q2 => h1 u v (by omega) (by omega))
    have key : ∀ i, i ≤ nT Ab → ∀ (x : Int) (M' : Mem) (L : Nat → Nat) (n : Nat) (z : Option Vl), x = (i : Int) → (∀ u v, u ≠ 123 → ¬ (u = 122 ∧ v = 0) → M' u v = M u v) → LineOK Ab d i L n → n ≤ i → M' 122 0 = (n : Int) → (∀ j, j < n → M' 123 j = (L j : Int)) → J 7 [some (vR 122), some (vR pl), some (vI d), some (vI x), z] [] M' := by
      refine dn ?_ ?_
      · intro x M' L n z hx h1 h2 h3 h4 h5
        have hp2 := hpk M' h1
        exact R_X1_chooseThings_7 R (an (pl_ob hk) (bt (show M' pl 3 ≤ x by rw [hp2.2.1]; omega) (R_X1_chooseThings_114 R (hQ M' L n h1 h2 (by omega) h4 h5))))
      · intro i hi ih x M' L n z hx h1 h2 h3 h4 h5
        have hp2 := hpk M' h1
        have hxn : x.toNat = i := by omega
        obtain ⟨t1, t2, t3, t4⟩ := hp2.2.2.2.2.2.2.1 i hi
        refine R_X1_chooseThings_7 R (an (pl_ob hk) (bf (show ¬ M' pl 3 ≤ x by rw [hp2.2.1]; omega) (an (pl_ob hk) (an (ak_of (pl_5 hk) (by omega) (by omega)) ?_))))
        rw [hxn, t3]
        refine br (fun q => R_X1_chooseThings_108 R (ih _ _ L n _ (wn hx (by omega)) h1 (line_skip h2 q) (by omega) h4 h5)) (fun q => an o122 (bf (show ¬ (14 : Int) ≤ M' 122 0 by rw [h4]; omega) (an o122 ?_)))
        have q : Ab 2 i = d := Classical.not_not.mp q
        have inner : ∀ e : Nat, e ≤ n → ∀ (y : Int) (M2 : Mem), y = ((n - e : Nat) : Int) → (∀ u v, u ≠ 123 → M2 u v = M' u v) → (∀ j, j < n - e → M2 123 j = (L j : Int)) → (∀ j, n - e ≤ j → j < n → M2 123 (j + 1) = (L j : Int) ∧ Ab 3 i < Ab 3 (L j)) → J 40 [some (vR 122), some (vR pl), some (vI d), some (vI x), some (vI y)] [] M2 := by
          have put : ∀ (p : Nat) (y : Int) (M2 : Mem), p ≤ n → y = (p : Int) → (∀ u v, u ≠ 123 → M2 u v = M' u v) → (∀ j, j < p → M2 123 j = (L j : Int)) → (∀ j, p ≤ j → j < n → M2 123 (j + 1) = (L j : Int) ∧ Ab 3 i < Ab 3 (L j)) → (0 < p → Ab 3 (L (p - 1)) ≤ Ab 3 i) → J 90 [some (vR 122), some (vR pl), some (vI d), some (vI x), some (vI y)] [] M2 := by
            intro p y M2 hpn hy g1 g2 g3 g4
            have hyn : y.toNat = p := by omega
            have c0 : M2 122 0 = (n : Int) := by rw [g1 _ _ (by decide)]; exact h4
            refine R_X1_chooseThings_90 R (an o122 (an (ak_of sh123 (by omega) (by omega)) (an o122 (an o122 (R_X1_chooseThings_108 R (ih _ _ _ (n + 1) _ (wn hx (by omega)) (fun u v hu hv => ?_) (line_ins ho hi h2 q hpn g4 (fun j a b => (g3 j a b).2)) (by omega) ?_ (fun j hj => ?_)))))))
            · rw [up_ne (by omega), up_ne (by omega), g1 _ _ hu]; exact h1 u v hu hv
            · rw [up_eq, up_ne (by omega), c0]
              exact wn rfl (by omega)
            · show up (up M2 (122 + 1) y.toNat x) 122 0 (f_add (up M2 (122 + 1) y.toNat x 122 0) 1) 123 j = ((if j < p then L j else if j = p then i else L (j - 1) : Nat) : Int)
              rw [up_ne (by omega), hyn]
              by_cases e1 : j < p
              · rw [if_pos e1, up_ne (by omega)]; exact g2 j e1
              · rw [if_neg e1]
                by_cases e2 : j = p
                · subst e2
                  rw [if_pos rfl]
                  exact up_eq.trans hx
                · rw [if_neg e2, up_ne (by omega)]
                  have := (g3 (j - 1) (by omega) (by omega)).1
                  rw [show j - 1 + 1 = j by omega] at this
                  exact this
          refine dn ?_ ?_
          · intro y M2 hy g1 g2 g3
            exact R_X1_chooseThings_40 R (bt (show y ≤ 0 by omega) (put 0 y M2 (by omega) (by omega) g1 (fun j hj => by omega) (fun j a b => g3 j (by omega) b) (fun z => by omega)))
          · intro e he ihe y M2 hy g1 g2 g3
            have hyn : y.toNat = n - e := by omega
            have es := sub1 (y := y) (by omega) (by omega)
            have en : (f_sub y 1).toNat = n - e - 1 := by rw [es]; omega
            have hp3 : PlanRel M2 pl Ab := hp2.kept (fun u v q1 q2 => g1 u v (by omega))
            have lb := (h2.1 (n - e - 1) (by omega)).1
            have m1 : M2 (122 + 1) (f_sub y 1).toNat = (L (n - e - 1) : Int) := by rw [en]; exact g2 _ (by omega)
            have st : M2 (pl + 6) (L (n - e - 1)) = Ab 3 (L (n - e - 1)) := (hp3.2.2.2.2.2.2.1 _ (by omega)).2.2.2
            have st2 : M2 (pl + 6) x.toNat = Ab 3 i := by rw [hxn]; exact (hp3.2.2.2.2.2.2.1 i hi).2.2.2
            have ak1 : AK 1 123 (f_sub y 1) := by rw [es]; exact ak_of sh123 (by omega) (by omega)
            clear es
            refine R_X1_chooseThings_40 R (bf (show ¬ y ≤ 0 by omega) (an (pl_ob hk) (an o122 (an ak1 ?_))))
            rw [m1]
            refine an (ak_of (pl_6 hk) (by omega) (by omega)) (an (pl_ob hk) (an (ak_of (pl_6 hk) (by omega) (by omega)) ?_))
            rw [st2, Int.toNat_natCast, st]
            refine br (fun g => put (n - e) y M2 (by omega) hy g1 g2 g3 (fun _ => g)) (fun g => an o122 (an o122 (an ak1 (an (ak_of sh123 (by omega) (by omega)) ?_))))
            have g : ¬ Ab 3 (L (n - e - 1)) ≤ Ab 3 i := g
            refine ihe _ _ ?_ (fun u v hu => ?_) (fun j hj => ?_) (fun j a b => ?_)
            · exact w1 (by omega) (by omega) (by omega)
            · rw [up_ne (by omega)]; exact g1 u v hu
            · rw [up_ne (by omega)]; exact g2 j (by omega)
            · rw [hyn, m1]
              by_cases e1 : j = n - e - 1
              · subst e1
                rw [show n - e - 1 + 1 = n - e by omega]
                exact ⟨up_eq, by omega⟩
              · rw [up_ne (by omega)]
                exact g3 j (by omega) b
        exact inner 0 (Nat.zero_le _) _ M' (by rw [h4]; rfl) (fun _ _ _ => rfl) (fun j hj => h5 j (by omega)) (fun j a b => by omega)
    refine ⟨Nat.le_of_ble_eq_true rfl, R_X1_chooseThings_0 R (an o122 (key 0 (Nat.zero_le _) _ _ (fun _ => 0) 0 _ rfl (fun u v hu hv => up_ne (by omega)) ⟨fun i hi => by omega, fun a b _ hb => by omega, fun t ht => by omega⟩ (Nat.le_refl _) up_eq (fun j hj => by omega)))⟩

  · exact h.elim