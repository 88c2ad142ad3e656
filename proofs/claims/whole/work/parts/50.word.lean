/-! words -/
def strC : Nat → List Nat
  | 0 => [112, 101, 114, 115, 111, 110]
  | 1 => [116, 104, 105, 110, 103]
  | 2 => [100, 111, 111, 114]
  | 3 => [111, 117, 116, 115, 105, 100, 101]
  | 4 => [109, 111, 116, 105, 111, 110]
  | 5 => [108, 97, 119]
  | 6 => [108, 101, 110, 100]
  | _ => []
def tx_slen (sx : Nat → Nat) : AT := fun _ _ k ls st M => match st with
  | .inr (.inr (.inr a)) :: st => (match Nat.ble (cats st) 8 with
    | true => ∃ i, i < 7 ∧ a = sx i ∧ k ls (.inl ((strC i).length : Int) :: st) M
    | false => False)
  | _ => False
def tx_schr (sx : Nat → Nat) : AT := fun _ _ k ls st M => match st with
  | .inl j :: .inr (.inr (.inr a)) :: st => (match Nat.ble (cats st) 8 with
    | true => ∃ i, i < 7 ∧ a = sx i ∧ (0 ≤ j ∧ j < ((strC i).length : Int)) ∧ k ls (.inl (((strC i).getD j.toNat 0 : Nat) : Int) :: st) M
    | false => False)
  | _ => False
def wdP (B : Nat → Int) (t q i : Nat) : Prop := q - t = (strC i).length ∧ ∀ j, j < (strC i).length → B (t + j) = (((strC i).getD j 0 : Nat) : Int)
def G_X9_wordIs (sx : Nat → Nat) : FN := fun as M Q => match as with
  | [.inr (.inl k), .inr (.inr (.inr a))] => ∃ i B e p tk fk fp, (k = 1 ∧ i < 7 ∧ a = sx i) ∧ TS M B e p tk fk fp ∧ bq (wdP B tk p i) Q M
  | _ => False
def b_X9_wordIs_0 (sx : Nat → Nat) : List AT := [tx_al 0, tx_gi 9 3, tx_al 0, tx_gi 9 4, tx_bin f_sub, tx_is 2, tx_il 2, tx_al 1, tx_slen sx, tx_cmp r_eq 20, tx_ic 0, tx_rz]
def b_X9_wordIs_20 (sx : Nat → Nat) : List AT := [tx_ic 0, tx_is 3, tx_fall 22]
def b_X9_wordIs_22 (sx : Nat → Nat) : List AT := [tx_il 3, tx_il 2, tx_cmp r_ge 54, tx_al 0, tx_gr 9 1, tx_al 0, tx_gi 9 4, tx_il 3, tx_bin f_add, tx_ba, tx_al 1, tx_il 3, tx_schr sx, tx_cmp r_eq 48, tx_ic 0, tx_rz]
def b_X9_wordIs_48 (sx : Nat → Nat) : List AT := [tx_inc 3 1, tx_fall 22]
def b_X9_wordIs_54 (sx : Nat → Nat) : List AT := [tx_ic 1, tx_rz]
def R_X9_wordIs (sx : Nat → Nat) (J : JT) (Q : QT) : Prop := (∀ ls st M, wpl J Q (b_X9_wordIs_0 sx) ls st M → J 0 ls st M) ∧ (∀ ls st M, wpl J Q (b_X9_wordIs_20 sx) ls st M → J 20 ls st M) ∧ (∀ ls st M, wpl J Q (b_X9_wordIs_22 sx) ls st M → J 22 ls st M) ∧ (∀ ls st M, wpl J Q (b_X9_wordIs_48 sx) ls st M → J 48 ls st M) ∧ (∀ ls st M, wpl J Q (b_X9_wordIs_54 sx) ls st M → J 54 ls st M)
theorem R_X9_wordIs_0 {sx : Nat → Nat} {J : JT} {Q : QT} (R : R_X9_wordIs sx J Q) {ls : Ls} {st : St} {M : Mem} (h : wpl J Q (b_X9_wordIs_0 sx) ls st M) : J 0 ls st M := R.1 ls st M h
theorem R_X9_wordIs_20 {sx : Nat → Nat} {J : JT} {Q : QT} (R : R_X9_wordIs sx J Q) {ls : Ls} {st : St} {M : Mem} (h : wpl J Q (b_X9_wordIs_20 sx) ls st M) : J 20 ls st M := R.2.1 ls st M h
theorem R_X9_wordIs_22 {sx : Nat → Nat} {J : JT} {Q : QT} (R : R_X9_wordIs sx J Q) {ls : Ls} {st : St} {M : Mem} (h : wpl J Q (b_X9_wordIs_22 sx) ls st M) : J 22 ls st M := R.2.2.1 ls st M h
theorem R_X9_wordIs_48 {sx : Nat → Nat} {J : JT} {Q : QT} (R : R_X9_wordIs sx J Q) {ls : Ls} {st : St} {M : Mem} (h : wpl J Q (b_X9_wordIs_48 sx) ls st M) : J 48 ls st M := R.2.2.2.1 ls st M h
theorem R_X9_wordIs_54 {sx : Nat → Nat} {J : JT} {Q : QT} (R : R_X9_wordIs sx J Q) {ls : Ls} {st : St} {M : Mem} (h : wpl J Q (b_X9_wordIs_54 sx) ls st M) : J 54 ls st M := R.2.2.2.2 ls st M h
theorem str_lt : ∀ i, i < 7 → (strC i).length ≤ 7 ∧ ∀ j, j < (strC i).length → (strC i).getD j 0 < 128 := by decide
theorem P_X9_wordIs {sx : Nat → Nat} {J : JT} {Q : QT} (R : R_X9_wordIs sx J Q) {as : List Vl} {M : Mem} (h : nf (G_X9_wordIs sx) as M Q) : (enL as).length ≤ 4 ∧ J 0 (padL 4 (enL as)) [] M := by
  unfold nf G_X9_wordIs at h
  split at h
  · rename_i k a
    obtain ⟨i, B, e, p, tk, fk, fp, ⟨rfl, hi, rfl⟩, ts, hQ⟩ := h
    obtain ⟨s1, s2⟩ := str_lt i hi
    have e600 := ts.2.2.2.2.2.1
    have pe := ts.2.2.2.2.2.2.1
    have tp := ts.2.2.2.2.2.2.2.1
    have es : f_sub (M 1 3) (M 1 4) = ((p - tk : Nat) : Int) := by rw [ts.2.1, ts.2.2.1]; exact w1 (by omega) (by omega) (by omega)
    have key : p - tk = (strC i).length → ∀ j, j ≤ p - tk → ∀ (x y : Int), x = (j : Int) → y = ((p - tk : Nat) : Int) → (∀ n, n < j → B (tk + n) = (((strC i).getD n 0 : Nat) : Int)) → J 22 [some (vR 1), some (.inr (.inr (.inr (sx i)))), some (vI y), some (vI x)] [] M := by
      intro hlen
      refine dn ?_ ?_
      · intro x y hx hy h1
        exact R_X9_wordIs_22 R (bt (show y ≤ x by omega) (R_X9_wordIs_54 R (an (Or.inr rfl) (hQ.1 ⟨hlen, fun n hn => h1 n (by omega)⟩))))
      · intro j hj ih x y hx hy h1
        have hxn : x.toNat = j := by omega
        have ea : f_add (M 1 4) x = ((tk + j : Nat) : Int) := by rw [ts.2.2.1, hx]; exact w1 (by omega) (by omega) (by omega)
        have b := ts.2.2.2.2.2.2.2.2 (tk + j) (by omega)
        have c := s2 j (by omega)
        have eb : M (1 + 1) (f_add (M 1 4) x).toNat = w8 (B (tk + j)) := by rw [ea, Int.toNat_natCast]; exact b.1
        have ak : AK 2 2 (f_add (M 1 4) x) := by rw [ea]; exact ak_of sh2 (by omega) (by omega)
        clear ea es
        refine R_X9_wordIs_22 R (bf (show ¬ y ≤ x by omega) (an o1 (an o1 (an ak ?_))))
        rw [eb]
        refine ⟨i, hi, rfl, ⟨by omega, by omega⟩, ?_⟩
        rw [hxn]
        refine br (fun g => R_X9_wordIs_48 R (ih _ _ (wn hx (by omega)) hy (fun n hn => ?_))) (fun g => an (Or.inl rfl) (hQ.2 (fun z => g ?_)))
        · have g : w8 (B (tk + j)) = (((strC i).getD j 0 : Nat) : Int) := g
          by_cases e : n = j
          · subst e
            unfold w8 at g
            omega
          · exact h1 n (by omega)
        · show w8 (B (tk + j)) = (((strC i).getD j 0 : Nat) : Int)
          rw [z.2 j (by omega)]
          unfold w8
          omega
    refine ⟨Nat.le_of_ble_eq_true rfl, R_X9_wordIs_0 R (an o1 (an o1 ⟨i, hi, rfl, br (fun g => R_X9_wordIs_20 R ?_) (fun g => an (Or.inl rfl) (hQ.2 (fun z => g ?_)))⟩))⟩
    · have g : f_sub (M 1 3) (M 1 4) = ((strC i).length : Int) := g
      rw [es] at g
      exact key (by omega) 0 (Nat.zero_le _) 0 _ rfl es (fun n hn => by omega)
    · show f_sub (M 1 3) (M 1 4) = ((strC i).length : Int)
      rw [es, z.1]
  · exact h.elim
/-! the text as it is read: place, begin of the last word or number, fault, fault's place -/
abbrev Tp : Type := Nat × Nat × Int × Int
def TSs (M : Mem) (B : Nat → Int) (e : Nat) (s : Tp) : Prop := TS M B e s.1 s.2.1 s.2.2.1 s.2.2.2
def nuT (B : Nat → Int) (e : Nat) (lo hi : Int) (s : Tp) : Tp := if s.2.2.1 = 0 then
    (sk cDg B e (sk cBl B e s.1), sk cBl B e s.1, nmK lo hi (sk cBl B e s.1) (sk cDg B e (sk cBl B e s.1)) (dgV B (sk cBl B e s.1) (sk cDg B e (sk cBl B e s.1) - sk cBl B e s.1)), nmP (nmK lo hi (sk cBl B e s.1) (sk cDg B e (sk cBl B e s.1)) (dgV B (sk cBl B e s.1) (sk cDg B e (sk cBl B e s.1) - sk cBl B e s.1))) (sk cBl B e s.1) s.2.2.2) else s
def nuV (B : Nat → Int) (e : Nat) (s : Tp) : Int := dgV B (sk cBl B e s.1) (sk cDg B e (sk cBl B e s.1) - sk cBl B e s.1)
def reT (kd : Int) (s : Tp) : Tp := (s.1, s.2.1, rfK s.2.2.1 kd, rfP s.2.2.1 s.2.1 s.2.2.2)
theorem nu_ok {B : Nat → Int} {e : Nat} {lo hi : Int} {s : Tp} (h : (nuT B e lo hi s).2.2.1 = 0) : s.2.2.1 = 0 ∧ lo ≤ nuV B e s ∧ nuV B e s ≤ hi := by
  by_cases q : s.2.2.1 = 0
  · refine ⟨q, ?_⟩
    unfold nuT at h
    rw [if_pos q] at h
    have h : nmK lo hi (sk cBl B e s.1) (sk cDg B e (sk cBl B e s.1)) (nuV B e s) = 0 := h
    unfold nmK at h
    by_cases c : sk cDg B e (sk cBl B e s.1) = sk cBl B e s.1
    · rw [if_pos c] at h; omega
    · rw [if_neg c] at h
      by_cases d : nuV B e s < lo ∨ hi < nuV B e s
      · rw [if_pos d] at h; omega
      · omega
  · unfold nuT at h
    rw [if_neg q] at h
    exact absurd h q
theorem use_num {M : Mem} {B : Nat → Int} {e : Nat} {s : Tp} {lo hi : Int} {Q : QT} (hh : hi < 1000000) (ts : TSs M B e s) (h : ∀ (M' : Mem) (r : Int), TF M M' → TSs M' B e (nuT B e lo hi s) → ((nuT B e lo hi s).2.2.1 = 0 → r = nuV B e s) → Q (.inl (some (vI r))) M') : nf G_X9_readNumber [.inr (.inl 1), .inl lo, .inl hi] M Q := by
  refine ⟨B, e, s.1, s.2.1, s.2.2.1, s.2.2.2, rfl, hh, ts, fun q => ?_, fun q M' t q2 v ht hq hv tf ts2 => ?_⟩
  · have e1 : nuT B e lo hi s = s := by unfold nuT; rw [if_neg q]
    refine h M (-1) (TF.rf M) (by rw [e1]; exact ts) (fun z => ?_)
    rw [e1] at z
    exact absurd z q
  · subst ht hq hv
    refine h M' _ tf ?_ (fun z => ?_)
    · unfold nuT
      rw [if_pos q]
      exact ts2
    · have := (nu_ok z).2
      unfold nuV at this ⊢
      omega
theorem use_ref {M : Mem} {B : Nat → Int} {e : Nat} {s : Tp} {kd : Int} {Q : QT} (ts : TSs M B e s) (h : ∀ M' : Mem, TF M M' → TSs M' B e (reT kd s) → Q (.inl none) M') : nf G_X9_refuse [.inr (.inl 1), .inl kd] M Q := ⟨B, e, s.1, s.2.1, s.2.2.1, s.2.2.2, rfl, ts, fun M' tf ts2 => h M' tf ts2⟩
theorem use_snd {M : Mem} {B : Nat → Int} {e : Nat} {s : Tp} {Q : QT} (ts : TSs M B e s) (h1 : s.2.2.1 = 0 → Q (.inl (some (vI 1))) M) (h2 : ¬ s.2.2.1 = 0 → Q (.inl (some (vI 0))) M) : nf G_X9_isSound [.inr (.inl 1)] M Q := ⟨rfl, fun q => h1 (ts.2.2.2.1.symm.trans q), fun q => h2 (fun z => q (ts.2.2.2.1.trans z))⟩
