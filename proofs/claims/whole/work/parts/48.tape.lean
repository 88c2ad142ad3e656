/-! Tape -/
def skp (c : Int → Bool) (B : Nat → Int) : Nat → Nat → Nat
  | 0, p => p
  | f + 1, p => if c (B p) = true then skp c B f (p + 1) else p
def sk (c : Int → Bool) (B : Nat → Int) (e p : Nat) : Nat := skp c B (e - p) p
theorem sk_e (c : Int → Bool) (B : Nat → Int) (e : Nat) : sk c B e e = e := by unfold sk; rw [Nat.sub_self]; rfl
theorem sk_y {c : Int → Bool} {B : Nat → Int} {e p : Nat} (h : p < e) (q : c (B p) = true) : sk c B e p = sk c B e (p + 1) := by
  unfold sk
  rw [show e - p = e - (p + 1) + 1 by omega, skp, if_pos q]
theorem sk_n {c : Int → Bool} {B : Nat → Int} {e p : Nat} (h : p < e) (q : ¬ c (B p) = true) : sk c B e p = p := by
  unfold sk
  rw [show e - p = e - (p + 1) + 1 by omega, skp, if_neg q]
theorem skp_bd (c : Int → Bool) (B : Nat → Int) : ∀ f p, p ≤ skp c B f p ∧ skp c B f p ≤ p + f
  | 0, p => by simp [skp]
  | f + 1, p => by
    have := skp_bd c B f (p + 1)
    rw [skp]
    split <;> omega
theorem sk_bd (c : Int → Bool) (B : Nat → Int) {e p : Nat} (h : p ≤ e) : p ≤ sk c B e p ∧ sk c B e p ≤ e := by
  have := skp_bd c B (e - p) p
  unfold sk
  omega
theorem skp_in (c : Int → Bool) (B : Nat → Int) : ∀ f p i, p ≤ i → i < skp c B f p → c (B i) = true
  | 0, p, i, h1, h2 => by simp [skp] at h2; omega
  | f + 1, p, i, h1, h2 => by
    rw [skp] at h2
    by_cases q : c (B p) = true
    · rw [if_pos q] at h2
      by_cases e : i = p
      · subst e; exact q
      · exact skp_in c B f (p + 1) i (by omega) h2
    · rw [if_neg q] at h2; omega
def cBl (x : Int) : Bool := decide (x = 32)
def cDg (x : Int) : Bool := decide (48 ≤ x) && decide (x ≤ 57)
def cLt (x : Int) : Bool := decide (97 ≤ x) && decide (x ≤ 122)
/-- the number that some digits write -/
def dgV (B : Nat → Int) (t : Nat) : Nat → Int
  | 0 => 0
  | n + 1 => 10 * dgV B t n + B (t + n) - 48
def TS (M : Mem) (B : Nat → Int) (e p tk : Nat) (fk fp : Int) : Prop := M 1 2 = (e : Int) ∧ M 1 3 = (p : Int) ∧ M 1 4 = (tk : Int) ∧ M 1 5 = fk ∧ M 1 6 = fp ∧ e ≤ 600 ∧ p ≤ e ∧ tk ≤ p ∧ ∀ i, i < 600 → M 2 i = w8 (B i) ∧ 0 ≤ B i ∧ B i < 256
def TF (M M' : Mem) : Prop := ∀ u v, ¬ (u = 1 ∧ 3 ≤ v ∧ v ≤ 6) → M' u v = M u v
theorem TF.tr {M M1 M2 : Mem} (h : TF M M1) (h2 : TF M1 M2) : TF M M2 := fun u v hu => (h2 u v hu).trans (h u v hu)
theorem TF.rf (M : Mem) : TF M M := fun _ _ _ => rfl
def rfK (fk kd : Int) : Int := if fk = 0 then kd else fk
def rfP (fk : Int) (tk : Nat) (fp : Int) : Int := if fk = 0 then (tk : Int) else fp
def G_X9_isSound : FN := fun as M Q => match as with
  | [.inr (.inl k)] => k = 1 ∧ bq (M 1 5 = 0) Q M
  | _ => False
def G_X9_refuse : FN := fun as M Q => match as with
  | [.inr (.inl k), .inl kd] => ∃ B e p tk fk fp, k = 1 ∧ TS M B e p tk fk fp ∧ ∀ M', TF M M' → TS M' B e p tk (rfK fk kd) (rfP fk tk fp) → Q none M'
  | _ => False
def G_X9_skipBlanks : FN := fun as M Q => match as with
  | [.inr (.inl k)] => ∃ B e p tk fk fp, k = 1 ∧ TS M B e p tk fk fp ∧ ∀ M', TF M M' → TS M' B e (sk cBl B e p) (sk cBl B e p) fk fp → Q none M'
  | _ => False
def G_X9_hasMore : FN := fun as M Q => match as with
  | [.inr (.inl k)] => ∃ B e p tk fk fp, k = 1 ∧ TS M B e p tk fk fp ∧ (¬ fk = 0 → Q (some (vI 0)) M) ∧ (fk = 0 → ∀ M', TF M M' → TS M' B e (sk cBl B e p) (sk cBl B e p) fk fp → bq (sk cBl B e p < e) Q M')
  | _ => False
def G_X9_readWord : FN := fun as M Q => match as with
  | [.inr (.inl k)] => ∃ B e p tk fk fp, k = 1 ∧ TS M B e p tk fk fp ∧ (¬ fk = 0 → Q none M) ∧ (fk = 0 → ∀ M', TF M M' → TS M' B e (sk cLt B e (sk cBl B e p)) (sk cBl B e p) fk fp → Q none M')
  | _ => False
def nmK (lo hi : Int) (t q : Nat) (v : Int) : Int := if q = t then 1 else if v < lo ∨ hi < v then 2 else 0
def nmP (k : Int) (t : Nat) (fp : Int) : Int := if k = 0 then fp else (t : Int)
def G_X9_readNumber : FN := fun as M Q => match as with
  | [.inr (.inl k), .inl lo, .inl hi] => ∃ B e p tk fk fp, k = 1 ∧ hi < 1000000 ∧ TS M B e p tk fk fp ∧ (¬ fk = 0 → Q (some (vI (-1))) M) ∧ (fk = 0 → ∀ (M' : Mem) (t q : Nat) (v : Int), t = sk cBl B e p → q = sk cDg B e t → v = dgV B t (q - t) → TF M M' → TS M' B e q t (nmK lo hi t q v) (nmP (nmK lo hi t q v) t fp) → Q (some (vI (min v 1000000))) M')
  | _ => False
def G_X9_readStop : FN := fun as M Q => match as with
  | [.inr (.inl k)] => ∃ B e p tk fk fp, k = 1 ∧ TS M B e p tk fk fp ∧ (¬ fk = 0 → Q none M) ∧ (fk = 0 → ∀ (M' : Mem) (t : Nat), t = sk cBl B e p → TF M M' → (t < e ∧ B t = 59 → TS M' B e (t + 1) t 0 fp) → (¬ (t < e ∧ B t = 59) → TS M' B e t t 1 (t : Int)) → Q none M')
  | _ => False
def G_X9_open : FN := fun as M Q => match as with
  | [.inr (.inl k), .inl n] => ∃ B, (k = 1 ∧ 0 ≤ n ∧ n ≤ 600) ∧ (∀ i, i < 600 → M 2 i = w8 (B i) ∧ 0 ≤ B i ∧ B i < 256) ∧ ∀ M' : Mem, (∀ u v, ¬ (u = 1 ∧ 1 ≤ v ∧ v ≤ 6) → M' u v = M u v) → M' 1 1 = 0 → TS M' B n.toNat 0 0 0 (-1) → Q none M'
  | _ => False
def G_X9_put : FN := fun as M Q => match as with
  | [.inr (.inl k), .inl x] => (k = 1 ∧ 0 ≤ M 1 1 ∧ M 1 1 + 4 ≤ 600 ∧ okI x) ∧ ∀ M' : Mem, (∀ u v, ¬ (u = 1 ∧ v = 1) → ¬ (u = 2 ∧ (M 1 1).toNat ≤ v ∧ v < (M 1 1).toNat + 4) → M' u v = M u v) → M' 1 1 = M 1 1 + 4 → (∀ j, j < 4 → M' 2 ((M 1 1).toNat + j) = w8 (x / 2 ^ (24 - 8 * j) % 256)) → Q none M'
  | _ => False
def b_X9_isSound_0 : List AT := [tx_al 0, tx_gi 9 5, tx_ifz r_ne 11, tx_ic 1, tx_fall 12]
def b_X9_isSound_11 : List AT := [tx_ic 0, tx_fall 12]
def b_X9_isSound_12 : List AT := [tx_rz]
def R_X9_isSound (J : JT) (Q : QT) : Prop := (∀ ls st M, wpl J Q b_X9_isSound_0 ls st M → J 0 ls st M) ∧ (∀ ls st M, wpl J Q b_X9_isSound_11 ls st M → J 11 ls st M) ∧ (∀ ls st M, wpl J Q b_X9_isSound_12 ls st M → J 12 ls st M)
theorem R_X9_isSound_0 {J : JT} {Q : QT} (R : R_X9_isSound J Q) {ls : Ls} {st : St} {M : Mem} (h : wpl J Q b_X9_isSound_0 ls st M) : J 0 ls st M := R.1 ls st M h
theorem R_X9_isSound_11 {J : JT} {Q : QT} (R : R_X9_isSound J Q) {ls : Ls} {st : St} {M : Mem} (h : wpl J Q b_X9_isSound_11 ls st M) : J 11 ls st M := R.2.1 ls st M h
theorem R_X9_isSound_12 {J : JT} {Q : QT} (R : R_X9_isSound J Q) {ls : Ls} {st : St} {M : Mem} (h : wpl J Q b_X9_isSound_12 ls st M) : J 12 ls st M := R.2.2 ls st M h
def b_X9_refuse_0 : List AT := [tx_al 0, tx_callv 9 (nf G_X9_isSound) 0, tx_ifz r_eq 20, tx_al 0, tx_il 1, tx_pi 9 5, tx_al 0, tx_al 0, tx_gi 9 4, tx_pi 9 6, tx_fall 20]
def b_X9_refuse_20 : List AT := [tx_rv]
def R_X9_refuse (J : JT) (Q : QT) : Prop := (∀ ls st M, wpl J Q b_X9_refuse_0 ls st M → J 0 ls st M) ∧ (∀ ls st M, wpl J Q b_X9_refuse_20 ls st M → J 20 ls st M)
theorem R_X9_refuse_0 {J : JT} {Q : QT} (R : R_X9_refuse J Q) {ls : Ls} {st : St} {M : Mem} (h : wpl J Q b_X9_refuse_0 ls st M) : J 0 ls st M := R.1 ls st M h
theorem R_X9_refuse_20 {J : JT} {Q : QT} (R : R_X9_refuse J Q) {ls : Ls} {st : St} {M : Mem} (h : wpl J Q b_X9_refuse_20 ls st M) : J 20 ls st M := R.2 ls st M h
def b_X9_skipBlanks_0 : List AT := [tx_al 0, tx_gi 9 3, tx_al 0, tx_gi 9 2, tx_cmp r_ge 38, tx_al 0, tx_gr 9 1, tx_al 0, tx_gi 9 3, tx_ba, tx_ic 32, tx_cmp r_ne 38, tx_al 0, tx_dup, tx_gi 9 3, tx_ic 1, tx_bin f_add, tx_pi 9 3, tx_fall 0]
def b_X9_skipBlanks_38 : List AT := [tx_al 0, tx_al 0, tx_gi 9 3, tx_pi 9 4, tx_rv]
def R_X9_skipBlanks (J : JT) (Q : QT) : Prop := (∀ ls st M, wpl J Q b_X9_skipBlanks_0 ls st M → J 0 ls st M) ∧ (∀ ls st M, wpl J Q b_X9_skipBlanks_38 ls st M → J 38 ls st M)
theorem R_X9_skipBlanks_0 {J : JT} {Q : QT} (R : R_X9_skipBlanks J Q) {ls : Ls} {st : St} {M : Mem} (h : wpl J Q b_X9_skipBlanks_0 ls st M) : J 0 ls st M := R.1 ls st M h
theorem R_X9_skipBlanks_38 {J : JT} {Q : QT} (R : R_X9_skipBlanks J Q) {ls : Ls} {st : St} {M : Mem} (h : wpl J Q b_X9_skipBlanks_38 ls st M) : J 38 ls st M := R.2 ls st M h
def b_X9_hasMore_0 : List AT := [tx_al 0, tx_callv 9 (nf G_X9_isSound) 0, tx_ifz r_ne 9, tx_ic 0, tx_rz]
def b_X9_hasMore_9 : List AT := [tx_al 0, tx_callv 9 (nf G_X9_skipBlanks) 0, tx_al 0, tx_gi 9 3, tx_al 0, tx_gi 9 2, tx_cmp r_ge 28, tx_ic 1, tx_fall 29]
def b_X9_hasMore_28 : List AT := [tx_ic 0, tx_fall 29]
def b_X9_hasMore_29 : List AT := [tx_rz]
def R_X9_hasMore (J : JT) (Q : QT) : Prop := (∀ ls st M, wpl J Q b_X9_hasMore_0 ls st M → J 0 ls st M) ∧ (∀ ls st M, wpl J Q b_X9_hasMore_9 ls st M → J 9 ls st M) ∧ (∀ ls st M, wpl J Q b_X9_hasMore_28 ls st M → J 28 ls st M) ∧ (∀ ls st M, wpl J Q b_X9_hasMore_29 ls st M → J 29 ls st M)
theorem R_X9_hasMore_0 {J : JT} {Q : QT} (R : R_X9_hasMore J Q) {ls : Ls} {st : St} {M : Mem} (h : wpl J Q b_X9_hasMore_0 ls st M) : J 0 ls st M := R.1 ls st M h
theorem R_X9_hasMore_9 {J : JT} {Q : QT} (R : R_X9_hasMore J Q) {ls : Ls} {st : St} {M : Mem} (h : wpl J Q b_X9_hasMore_9 ls st M) : J 9 ls st M := R.2.1 ls st M h
theorem R_X9_hasMore_28 {J : JT} {Q : QT} (R : R_X9_hasMore J Q) {ls : Ls} {st : St} {M : Mem} (h : wpl J Q b_X9_hasMore_28 ls st M) : J 28 ls st M := R.2.2.1 ls st M h
theorem R_X9_hasMore_29 {J : JT} {Q : QT} (R : R_X9_hasMore J Q) {ls : Ls} {st : St} {M : Mem} (h : wpl J Q b_X9_hasMore_29 ls st M) : J 29 ls st M := R.2.2.2 ls st M h
def b_X9_readWord_0 : List AT := [tx_al 0, tx_callv 9 (nf G_X9_isSound) 0, tx_ifz r_ne 8, tx_rv]
def b_X9_readWord_8 : List AT := [tx_al 0, tx_callv 9 (nf G_X9_skipBlanks) 0, tx_fall 12]
def b_X9_readWord_12 : List AT := tx_al 0 :: tx_gi 9 3 :: tx_al 0 :: tx_gi 9 2 :: tx_cmp r_ge 64 :: tx_al 0 :: tx_gr 9 1 :: tx_al 0 :: tx_gi 9 3 :: tx_ba :: tx_ic 97 :: tx_cmp r_lt 64 :: tx_al 0 :: tx_gr 9 1 :: tx_al 0 :: tx_gi 9 3 :: tx_ba :: tx_ic 122 :: tx_cmp r_gt 64 :: tx_al 0 :: tx_dup :: tx_gi 9 3 :: tx_ic 1 :: tx_bin f_add :: tx_pi 9 3 :: tx_fall 12 :: []
def b_X9_readWord_64 : List AT := [tx_rv]
def R_X9_readWord (J : JT) (Q : QT) : Prop := (∀ ls st M, wpl J Q b_X9_readWord_0 ls st M → J 0 ls st M) ∧ (∀ ls st M, wpl J Q b_X9_readWord_8 ls st M → J 8 ls st M) ∧ (∀ ls st M, wpl J Q b_X9_readWord_12 ls st M → J 12 ls st M) ∧ (∀ ls st M, wpl J Q b_X9_readWord_64 ls st M → J 64 ls st M)
theorem R_X9_readWord_0 {J : JT} {Q : QT} (R : R_X9_readWord J Q) {ls : Ls} {st : St} {M : Mem} (h : wpl J Q b_X9_readWord_0 ls st M) : J 0 ls st M := R.1 ls st M h
theorem R_X9_readWord_8 {J : JT} {Q : QT} (R : R_X9_readWord J Q) {ls : Ls} {st : St} {M : Mem} (h : wpl J Q b_X9_readWord_8 ls st M) : J 8 ls st M := R.2.1 ls st M h
theorem R_X9_readWord_12 {J : JT} {Q : QT} (R : R_X9_readWord J Q) {ls : Ls} {st : St} {M : Mem} (h : wpl J Q b_X9_readWord_12 ls st M) : J 12 ls st M := R.2.2.1 ls st M h
theorem R_X9_readWord_64 {J : JT} {Q : QT} (R : R_X9_readWord J Q) {ls : Ls} {st : St} {M : Mem} (h : wpl J Q b_X9_readWord_64 ls st M) : J 64 ls st M := R.2.2.2 ls st M h
def b_X9_readNumber_0 : List AT := [tx_al 0, tx_callv 9 (nf G_X9_isSound) 0, tx_ifz r_ne 9, tx_ic (-1), tx_ri]
def b_X9_readNumber_9 : List AT := [tx_al 0, tx_callv 9 (nf G_X9_skipBlanks) 0, tx_ic 0, tx_is 3, tx_fall 15]
def b_X9_readNumber_15 : List AT := tx_al 0 :: tx_gi 9 3 :: tx_al 0 :: tx_gi 9 2 :: tx_cmp r_ge 90 :: tx_al 0 :: tx_gr 9 1 :: tx_al 0 :: tx_gi 9 3 :: tx_ba :: tx_ic 48 :: tx_cmp r_lt 90 :: tx_al 0 :: tx_gr 9 1 :: tx_al 0 :: tx_gi 9 3 :: tx_ba :: tx_ic 57 :: tx_cmp r_gt 90 :: tx_il 3 :: tx_ic 10 :: tx_bin f_mul :: tx_al 0 :: tx_gr 9 1 :: tx_al 0 :: tx_gi 9 3 :: tx_ba :: tx_bin f_add :: tx_ic 48 :: tx_bin f_sub :: tx_ic 1000000 :: tx_call (nf G_J9_min_7cf53) 2 :: tx_is 3 :: tx_al 0 :: tx_dup :: tx_gi 9 3 :: tx_ic 1 :: tx_bin f_add :: tx_pi 9 3 :: tx_fall 15 :: []
def b_X9_readNumber_90 : List AT := [tx_al 0, tx_gi 9 3, tx_al 0, tx_gi 9 4, tx_cmp r_ne 109, tx_al 0, tx_ic 1, tx_callv 9 (nf G_X9_refuse) 1, tx_fall 124]
def b_X9_readNumber_109 : List AT := [tx_il 3, tx_il 1, tx_cmp r_lt 119, tx_il 3, tx_il 2, tx_cmp r_le 124, tx_fall 119]
def b_X9_readNumber_119 : List AT := [tx_al 0, tx_ic 2, tx_callv 9 (nf G_X9_refuse) 1, tx_fall 124]
def b_X9_readNumber_124 : List AT := [tx_il 3, tx_ri]
def R_X9_readNumber (J : JT) (Q : QT) : Prop := (∀ ls st M, wpl J Q b_X9_readNumber_0 ls st M → J 0 ls st M) ∧ (∀ ls st M, wpl J Q b_X9_readNumber_9 ls st M → J 9 ls st M) ∧ (∀ ls st M, wpl J Q b_X9_readNumber_15 ls st M → J 15 ls st M) ∧ (∀ ls st M, wpl J Q b_X9_readNumber_90 ls st M → J 90 ls st M) ∧ (∀ ls st M, wpl J Q b_X9_readNumber_109 ls st M → J 109 ls st M) ∧ (∀ ls st M, wpl J Q b_X9_readNumber_119 ls st M → J 119 ls st M) ∧ (∀ ls st M, wpl J Q b_X9_readNumber_124 ls st M → J 124 ls st M)
theorem R_X9_readNumber_0 {J : JT} {Q : QT} (R : R_X9_readNumber J Q) {ls : Ls} {st : St} {M : Mem} (h : wpl J Q b_X9_readNumber_0 ls st M) : J 0 ls st M := R.1 ls st M h
theorem R_X9_readNumber_9 {J : JT} {Q : QT} (R : R_X9_readNumber J Q) {ls : Ls} {st : St} {M : Mem} (h : wpl J Q b_X9_readNumber_9 ls st M) : J 9 ls st M := R.2.1 ls st M h
theorem R_X9_readNumber_15 {J : JT} {Q : QT} (R : R_X9_readNumber J Q) {ls : Ls} {st : St} {M : Mem} (h : wpl J Q b_X9_readNumber_15 ls st M) : J 15 ls st M := R.2.2.1 ls st M h
theorem R_X9_readNumber_90 {J : JT} {Q : QT} (R : R_X9_readNumber J Q) {ls : Ls} {st : St} {M : Mem} (h : wpl J Q b_X9_readNumber_90 ls st M) : J 90 ls st M := R.2.2.2.1 ls st M h
theorem R_X9_readNumber_109 {J : JT} {Q : QT} (R : R_X9_readNumber J Q) {ls : Ls} {st : St} {M : Mem} (h : wpl J Q b_X9_readNumber_109 ls st M) : J 109 ls st M := R.2.2.2.2.1 ls st M h
theorem R_X9_readNumber_119 {J : JT} {Q : QT} (R : R_X9_readNumber J Q) {ls : Ls} {st : St} {M : Mem} (h : wpl J Q b_X9_readNumber_119 ls st M) : J 119 ls st M := R.2.2.2.2.2.1 ls st M h
theorem R_X9_readNumber_124 {J : JT} {Q : QT} (R : R_X9_readNumber J Q) {ls : Ls} {st : St} {M : Mem} (h : wpl J Q b_X9_readNumber_124 ls st M) : J 124 ls st M := R.2.2.2.2.2.2 ls st M h
def b_X9_readStop_0 : List AT := [tx_al 0, tx_callv 9 (nf G_X9_isSound) 0, tx_ifz r_ne 8, tx_rv]
def b_X9_readStop_8 : List AT := [tx_al 0, tx_callv 9 (nf G_X9_skipBlanks) 0, tx_al 0, tx_gi 9 3, tx_al 0, tx_gi 9 2, tx_cmp r_ge 50, tx_al 0, tx_gr 9 1, tx_al 0, tx_gi 9 3, tx_ba, tx_ic 59, tx_cmp r_ne 50, tx_al 0, tx_dup, tx_gi 9 3, tx_ic 1, tx_bin f_add, tx_pi 9 3, tx_fall 55]
def b_X9_readStop_50 : List AT := [tx_al 0, tx_ic 1, tx_callv 9 (nf G_X9_refuse) 1, tx_fall 55]
def b_X9_readStop_55 : List AT := [tx_rv]
def R_X9_readStop (J : JT) (Q : QT) : Prop := (∀ ls st M, wpl J Q b_X9_readStop_0 ls st M → J 0 ls st M) ∧ (∀ ls st M, wpl J Q b_X9_readStop_8 ls st M → J 8 ls st M) ∧ (∀ ls st M, wpl J Q b_X9_readStop_50 ls st M → J 50 ls st M) ∧ (∀ ls st M, wpl J Q b_X9_readStop_55 ls st M → J 55 ls st M)
theorem R_X9_readStop_0 {J : JT} {Q : QT} (R : R_X9_readStop J Q) {ls : Ls} {st : St} {M : Mem} (h : wpl J Q b_X9_readStop_0 ls st M) : J 0 ls st M := R.1 ls st M h
theorem R_X9_readStop_8 {J : JT} {Q : QT} (R : R_X9_readStop J Q) {ls : Ls} {st : St} {M : Mem} (h : wpl J Q b_X9_readStop_8 ls st M) : J 8 ls st M := R.2.1 ls st M h
theorem R_X9_readStop_50 {J : JT} {Q : QT} (R : R_X9_readStop J Q) {ls : Ls} {st : St} {M : Mem} (h : wpl J Q b_X9_readStop_50 ls st M) : J 50 ls st M := R.2.2.1 ls st M h
theorem R_X9_readStop_55 {J : JT} {Q : QT} (R : R_X9_readStop J Q) {ls : Ls} {st : St} {M : Mem} (h : wpl J Q b_X9_readStop_55 ls st M) : J 55 ls st M := R.2.2.2 ls st M h
def b_X9_open_0 : List AT := [tx_al 0, tx_il 1, tx_ic 600, tx_call (nf G_J9_min_7cf53) 2, tx_pi 9 2, tx_al 0, tx_ic 0, tx_pi 9 1, tx_al 0, tx_ic 0, tx_pi 9 3, tx_al 0, tx_ic 0, tx_pi 9 4, tx_al 0, tx_ic 0, tx_pi 9 5, tx_al 0, tx_ic (-1), tx_pi 9 6, tx_rv]
def R_X9_open (J : JT) (Q : QT) : Prop := (∀ ls st M, wpl J Q b_X9_open_0 ls st M → J 0 ls st M)
theorem R_X9_open_0 {J : JT} {Q : QT} (R : R_X9_open J Q) {ls : Ls} {st : St} {M : Mem} (h : wpl J Q b_X9_open_0 ls st M) : J 0 ls st M := R ls st M h
def b_X9_put_0 : List AT := [tx_ic 24, tx_is 2, tx_fall 3]
def b_X9_put_3 : List AT := [tx_il 2, tx_ifz r_lt 46, tx_al 0, tx_gi 9 1, tx_ic 600, tx_cmp r_ge 40, tx_al 0, tx_gr 9 1, tx_al 0, tx_gi 9 1, tx_il 1, tx_il 2, tx_bin shrI, tx_i2b, tx_bax, tx_al 0, tx_dup, tx_gi 9 1, tx_ic 1, tx_bin f_add, tx_pi 9 1, tx_fall 40]
def b_X9_put_40 : List AT := [tx_inc 2 (-8), tx_fall 3]
def b_X9_put_46 : List AT := [tx_rv]
def R_X9_put (J : JT) (Q : QT) : Prop := (∀ ls st M, wpl J Q b_X9_put_0 ls st M → J 0 ls st M) ∧ (∀ ls st M, wpl J Q b_X9_put_3 ls st M → J 3 ls st M) ∧ (∀ ls st M, wpl J Q b_X9_put_40 ls st M → J 40 ls st M) ∧ (∀ ls st M, wpl J Q b_X9_put_46 ls st M → J 46 ls st M)
theorem R_X9_put_0 {J : JT} {Q : QT} (R : R_X9_put J Q) {ls : Ls} {st : St} {M : Mem} (h : wpl J Q b_X9_put_0 ls st M) : J 0 ls st M := R.1 ls st M h
theorem R_X9_put_3 {J : JT} {Q : QT} (R : R_X9_put J Q) {ls : Ls} {st : St} {M : Mem} (h : wpl J Q b_X9_put_3 ls st M) : J 3 ls st M := R.2.1 ls st M h
theorem R_X9_put_40 {J : JT} {Q : QT} (R : R_X9_put J Q) {ls : Ls} {st : St} {M : Mem} (h : wpl J Q b_X9_put_40 ls st M) : J 40 ls st M := R.2.2.1 ls st M h
theorem R_X9_put_46 {J : JT} {Q : QT} (R : R_X9_put J Q) {ls : Ls} {st : St} {M : Mem} (h : wpl J Q b_X9_put_46 ls st M) : J 46 ls st M := R.2.2.2 ls st M h
theorem o1 : OB 1 9 := ⟨rfl, rfl⟩
theorem sh2 : SH 2 = (2, 600, 0, 0) := rfl
theorem P_X9_isSound {J : JT} {Q : QT} (R : R_X9_isSound J Q) {as : List Vl} {M : Mem} (h : nf G_X9_isSound as M Q) : (enL as).length ≤ 1 ∧ J 0 (padL 1 (enL as)) [] M := by
  unfold nf G_X9_isSound at h
  split at h
  · rename_i k
    obtain ⟨rfl, hQ⟩ := h
    refine ⟨Nat.le_of_ble_eq_true rfl, R_X9_isSound_0 R (an o1 (br (fun q => R_X9_isSound_11 R (R_X9_isSound_12 R (an (Or.inl rfl) (hQ.2 q)))) (fun q => R_X9_isSound_12 R (an (Or.inr rfl) (hQ.1 (Classical.not_not.mp q))))))⟩
  · exact h.elim
theorem P_X9_refuse {J : JT} {Q : QT} (R : R_X9_refuse J Q) {as : List Vl} {M : Mem} (h : nf G_X9_refuse as M Q) : (enL as).length ≤ 2 ∧ J 0 (padL 2 (enL as)) [] M := by
  unfold nf G_X9_refuse at h
  split at h
  · rename_i k kd
    obtain ⟨B, e, p, tk, fk, fp, rfl, ⟨h1, h2, h3, h4, h5, h6⟩, hQ⟩ := h
    refine ⟨Nat.le_of_ble_eq_true rfl, R_X9_refuse_0 R (an o1 (an rfl (br (fun q => bf (by decide) (an o1 (an o1 (an o1 (R_X9_refuse_20 R (hQ _ (fun u v hu => ?_) ?_)))))) (fun q => bt rfl (R_X9_refuse_20 R (hQ M (TF.rf M) ?_))))))⟩
    · rw [up_ne (by omega), up_ne (by omega)]
    · have q : M 1 5 = 0 := q
      have f0 : fk = 0 := by omega
      unfold rfK rfP
      rw [if_pos f0, if_pos f0]
      refine ⟨?_, ?_, ?_, ?_, ?_, h6.1, h6.2.1, h6.2.2.1, fun i hi => ?_⟩
      · rw [up_ne (by omega), up_ne (by omega)]; exact h1
      · rw [up_ne (by omega), up_ne (by omega)]; exact h2
      · rw [up_ne (by omega), up_ne (by omega)]; exact h3
      · rw [up_ne (by omega), up_eq]
      · rw [up_eq, up_ne (by omega)]; exact h3
      · rw [up_ne (by omega), up_ne (by omega)]; exact h6.2.2.2 i hi
    · have q : ¬ M 1 5 = 0 := q
      have f0 : ¬ fk = 0 := by omega
      unfold rfK rfP
      rw [if_neg f0, if_neg f0]
      exact ⟨h1, h2, h3, h4, h5, h6⟩
  · exact h.elim
theorem TS.mv {M : Mem} {B : Nat → Int} {e p tk : Nat} {fk fp : Int} (h : TS M B e p tk fk fp) (hp : p < e) : TS (up M 1 3 (f_add (M 1 3) 1)) B e (p + 1) tk fk fp := by
  obtain ⟨h1, h2, h3, h4, h5, h6, h7, h8, h9⟩ := h
  refine ⟨?_, ?_, ?_, ?_, ?_, h6, hp, by omega, fun i hi => ?_⟩
  · rw [up_ne (by omega)]; exact h1
  · rw [up_eq, h2]; exact wn rfl (by omega)
  · rw [up_ne (by omega)]; exact h3
  · rw [up_ne (by omega)]; exact h4
  · rw [up_ne (by omega)]; exact h5
  · rw [up_ne (by omega)]; exact h9 i hi
theorem TF.mv (M : Mem) (x : Int) : TF M (up M 1 3 x) := fun u v hu => up_ne (by omega)
theorem P_X9_skipBlanks {J : JT} {Q : QT} (R : R_X9_skipBlanks J Q) {as : List Vl} {M : Mem} (h : nf G_X9_skipBlanks as M Q) : (enL as).length ≤ 1 ∧ J 0 (padL 1 (enL as)) [] M := by
  unfold nf G_X9_skipBlanks at h
  split at h
  · rename_i k
    obtain ⟨B, e, p0, tk, fk, fp, rfl, ts, hQ⟩ := h
    have key : ∀ p, p ≤ e → ∀ M' : Mem, TF M M' → TS M' B e p tk fk fp → sk cBl B e p = sk cBl B e p0 → J 0 [some (vR 1)] [] M' := by
      have out : ∀ p (M' : Mem), TF M M' → TS M' B e p tk fk fp → p = sk cBl B e p0 → J 38 [some (vR 1)] [] M' := by
        intro p M' tf ⟨h1, h2, h3, h4, h5, h6, h7, h8, h9⟩ hs
        refine R_X9_skipBlanks_38 R (an o1 (an o1 (hQ _ (fun u v hu => ?_) ?_)))
        · rw [up_ne (by omega)]; exact tf u v hu
        · rw [← hs]
          refine ⟨?_, ?_, ?_, ?_, ?_, h6, h7, Nat.le_refl _, fun i hi => ?_⟩
          · rw [up_ne (by omega)]; exact h1
          · rw [up_ne (by omega)]; exact h2
          · rw [up_eq]; exact h2
          · rw [up_ne (by omega)]; exact h4
          · rw [up_ne (by omega)]; exact h5
          · rw [up_ne (by omega)]; exact h9 i hi
      refine dn ?_ ?_
      · intro M' tf ts hs
        rw [sk_e] at hs
        exact R_X9_skipBlanks_0 R (an o1 (an o1 (bt (show M' 1 2 ≤ M' 1 3 by rw [ts.1, ts.2.1]; omega) (out e M' tf ts hs))))
      · intro p hp ih M' tf ts hs
        have e3 := ts.2.1
        have b := ts.2.2.2.2.2.2.2.2 p (by have := ts.2.2.2.2.2.1; omega)
        have e600 := ts.2.2.2.2.2.1
        refine R_X9_skipBlanks_0 R (an o1 (an o1 (bf (show ¬ M' 1 2 ≤ M' 1 3 by rw [ts.1, ts.2.1]; omega) (an o1 (an o1 (an (show AK 2 2 (M' 1 3) by rw [e3]; exact ak_of sh2 (by omega) (by omega)) ?_))))))
        have eb : M' (1 + 1) (M' 1 3).toNat = w8 (B p) := by rw [e3, Int.toNat_natCast]; exact b.1
        rw [eb]
        refine br (fun q => out p M' tf ts ?_) (fun q => an o1 (an o1 (ih _ (tf.tr (TF.mv _ _)) (ts.mv hp) ?_)))
        · have q : ¬ w8 (B p) = 32 := q
          rw [← hs, sk_n hp]
          unfold cBl
          intro z
          have z := of_decide_eq_true z
          rw [z] at q
          exact q (by decide)
        · have q : w8 (B p) = 32 := Classical.not_not.mp q
          rw [← hs, sk_y hp]
          unfold cBl
          refine decide_eq_true ?_
          unfold w8 at q
          omega
    exact ⟨Nat.le_of_ble_eq_true rfl, key p0 ts.2.2.2.2.2.2.1 M (TF.rf M) ts rfl⟩
  · exact h.elim
theorem P_X9_hasMore {J : JT} {Q : QT} (R : R_X9_hasMore J Q) {as : List Vl} {M : Mem} (h : nf G_X9_hasMore as M Q) : (enL as).length ≤ 1 ∧ J 0 (padL 1 (enL as)) [] M := by
  unfold nf G_X9_hasMore at h
  split at h
  · rename_i k
    obtain ⟨B, e, p, tk, fk, fp, rfl, ts, h1, h2⟩ := h
    refine ⟨Nat.le_of_ble_eq_true rfl, R_X9_hasMore_0 R (an o1 (an rfl (br (fun q => bt (by decide) (R_X9_hasMore_9 R (an o1 ⟨B, e, p, tk, fk, fp, rfl, ts, fun M' tf ts2 => an o1 (an o1 ?_)⟩))) (fun q => bf (by decide) (an (Or.inl rfl) (h1 (fun z => q (ts.2.2.2.1.trans z))))))))⟩
    have q : M 1 5 = 0 := q
    have hb := h2 (ts.2.2.2.1.symm.trans q) M' tf ts2
    refine br (fun g => R_X9_hasMore_28 R (R_X9_hasMore_29 R (an (Or.inl rfl) (hb.2 ?_)))) (fun g => R_X9_hasMore_29 R (an (Or.inr rfl) (hb.1 ?_)))
    · have g : M' 1 2 ≤ M' 1 3 := g
      rw [ts2.1, ts2.2.1] at g
      omega
    · have g : ¬ M' 1 2 ≤ M' 1 3 := g
      rw [ts2.1, ts2.2.1] at g
      omega
  · exact h.elim
theorem P_X9_readWord {J : JT} {Q : QT} (R : R_X9_readWord J Q) {as : List Vl} {M : Mem} (h : nf G_X9_readWord as M Q) : (enL as).length ≤ 1 ∧ J 0 (padL 1 (enL as)) [] M := by
  unfold nf G_X9_readWord at h
  split at h
  · rename_i k
    obtain ⟨B, e, p, tk, fk, fp, rfl, ts, h1, h2⟩ := h
    refine ⟨Nat.le_of_ble_eq_true rfl, R_X9_readWord_0 R (an o1 (an rfl (br (fun q => bt (by decide) (R_X9_readWord_8 R (an o1 ⟨B, e, p, tk, fk, fp, rfl, ts, fun M1 tf1 ts1 => ?_⟩))) (fun q => bf (by decide) (h1 (fun z => q (ts.2.2.2.1.trans z)))))))⟩
    have q : M 1 5 = 0 := q
    have hQ := h2 (ts.2.2.2.1.symm.trans q)
    generalize ht : sk cBl B e p = t at ts1 hQ
    have key : ∀ p, p ≤ e → ∀ M' : Mem, TF M M' → TS M' B e p t fk fp → sk cLt B e p = sk cLt B e t → J 12 [some (vR 1)] [] M' := by
      refine dn ?_ ?_
      · intro M' tf ts hs
        rw [sk_e] at hs
        refine R_X9_readWord_12 R (an o1 (an o1 (bt (show M' 1 2 ≤ M' 1 3 by rw [ts.1, ts.2.1]; omega) (R_X9_readWord_64 R (hQ M' tf ?_)))))
        rw [← hs]; exact ts
      · intro p hp ih M' tf ts hs
        have e3 := ts.2.1
        have b := ts.2.2.2.2.2.2.2.2 p (by have := ts.2.2.2.2.2.1; omega)
        have e600 := ts.2.2.2.2.2.1
        have eb : M' (1 + 1) (M' 1 3).toNat = w8 (B p) := by rw [e3, Int.toNat_natCast]; exact b.1
        have ak : AK 2 2 (M' 1 3) := by rw [e3]; exact ak_of sh2 (by omega) (by omega)
        have out : ¬ cLt (B p) = true → J 64 [some (vR 1)] [] M' := fun q => R_X9_readWord_64 R (hQ M' tf (by rw [← hs, sk_n hp q]; exact ts))
        refine R_X9_readWord_12 R (an o1 (an o1 (bf (show ¬ M' 1 2 ≤ M' 1 3 by rw [ts.1, ts.2.1]; omega) (an o1 (an o1 (an ak ?_))))))
        rw [eb]
        refine br (fun q => out ?_) (fun q => an o1 (an o1 (an ak ?_)))
        · have q : w8 (B p) < 97 := q
          intro z
          unfold cLt at z
          simp only [Bool.and_eq_true, decide_eq_true_eq] at z
          unfold w8 at q
          omega
        · have q : ¬ w8 (B p) < 97 := q
          rw [eb]
          refine br (fun q2 => out ?_) (fun q2 => an o1 (an o1 (ih _ (tf.tr (TF.mv _ _)) (ts.mv hp) ?_)))
          · have q2 : 122 < w8 (B p) := q2
            intro z
            unfold cLt at z
            simp only [Bool.and_eq_true, decide_eq_true_eq] at z
            unfold w8 at q2
            omega
          · have q2 : ¬ 122 < w8 (B p) := q2
            rw [← hs, sk_y hp]
            unfold cLt
            simp only [Bool.and_eq_true, decide_eq_true_eq]
            unfold w8 at q q2
            omega
    exact key t ts1.2.2.2.2.2.2.1 M1 tf1 ts1 rfl
  · exact h.elim
theorem P_X9_readStop {J : JT} {Q : QT} (R : R_X9_readStop J Q) {as : List Vl} {M : Mem} (h : nf G_X9_readStop as M Q) : (enL as).length ≤ 1 ∧ J 0 (padL 1 (enL as)) [] M := by
  unfold nf G_X9_readStop at h
  split at h
  · rename_i k
    obtain ⟨B, e, p, tk, fk, fp, rfl, ts, h1, h2⟩ := h
    refine ⟨Nat.le_of_ble_eq_true rfl, R_X9_readStop_0 R (an o1 (an rfl (br (fun q => bt (by decide) (R_X9_readStop_8 R (an o1 ⟨B, e, p, tk, fk, fp, rfl, ts, fun M1 tf1 ts1 => an o1 (an o1 ?_)⟩))) (fun q => bf (by decide) (h1 (fun z => q (ts.2.2.2.1.trans z)))))))⟩
    have q : M 1 5 = 0 := q
    have f0 : fk = 0 := ts.2.2.2.1.symm.trans q
    have hQ := h2 f0
    generalize ht : sk cBl B e p = t at ts1 hQ
    have e600 := ts1.2.2.2.2.2.1
    have bad : ¬ (t < e ∧ B t = 59) → J 50 [some (vR 1)] [] M1 := fun g => R_X9_readStop_50 R (an o1 ⟨B, e, t, t, fk, fp, rfl, ts1, fun M2 tf2 ts2 => R_X9_readStop_55 R (hQ M2 t rfl (tf1.tr tf2) (fun z => absurd z g) (fun _ => by
      unfold rfK rfP at ts2
      rw [if_pos f0, if_pos f0] at ts2
      exact ts2))⟩)
    refine br (fun g => bad ?_) (fun g => ?_)
    · have g : M1 1 2 ≤ M1 1 3 := g
      rw [ts1.1, ts1.2.1] at g
      omega
    · have g : ¬ M1 1 2 ≤ M1 1 3 := g
      rw [ts1.1, ts1.2.1] at g
      have hp : t < e := by omega
      have e3 := ts1.2.1
      have b := ts1.2.2.2.2.2.2.2.2 t (by omega)
      have eb : M1 (1 + 1) (M1 1 3).toNat = w8 (B t) := by rw [e3, Int.toNat_natCast]; exact b.1
      refine an o1 (an o1 (an (show AK 2 2 (M1 1 3) by rw [e3]; exact ak_of sh2 (by omega) (by omega)) ?_))
      rw [eb]
      refine br (fun g2 => bad ?_) (fun g2 => an o1 (an o1 (R_X9_readStop_55 R (hQ _ t rfl (tf1.tr (TF.mv _ _)) (fun _ => by have := ts1.mv hp; rw [f0] at this; exact this) (fun z => absurd ⟨hp, ?_⟩ z)))))
      · have g2 : ¬ w8 (B t) = 59 := g2
        rintro ⟨-, z⟩
        rw [z] at g2
        exact g2 (by decide)
      · have g2 : w8 (B t) = 59 := Classical.not_not.mp g2
        unfold w8 at g2
        omega
  · exact h.elim
theorem P_X9_open {J : JT} {Q : QT} (R : R_X9_open J Q) {as : List Vl} {M : Mem} (h : nf G_X9_open as M Q) : (enL as).length ≤ 2 ∧ J 0 (padL 2 (enL as)) [] M := by
  unfold nf G_X9_open at h
  split at h
  · rename_i k n
    obtain ⟨B, ⟨rfl, n0, n1⟩, hB, hQ⟩ := h
    refine ⟨Nat.le_of_ble_eq_true rfl, R_X9_open_0 R ?_⟩
    show OB 1 9 ∧ _
    refine an o1 (an o1 (an o1 (an o1 (an o1 (an o1 (hQ _ (fun u v hu => ?_) ?_ ⟨?_, ?_, ?_, ?_, ?_, by omega, by omega, by omega, fun i hi => ?_⟩))))))
    · rw [up_ne (by omega), up_ne (by omega), up_ne (by omega), up_ne (by omega), up_ne (by omega), up_ne (by omega)]
    · rw [up_ne (by omega), up_ne (by omega), up_ne (by omega), up_ne (by omega), up_eq]
    · rw [up_ne (by omega), up_ne (by omega), up_ne (by omega), up_ne (by omega), up_ne (by omega), up_eq]; omega
    · rw [up_ne (by omega), up_ne (by omega), up_ne (by omega), up_eq]; rfl
    · rw [up_ne (by omega), up_ne (by omega), up_eq]; rfl
    · rw [up_ne (by omega), up_eq]
    · rw [up_eq]
    · rw [up_ne (by omega), up_ne (by omega), up_ne (by omega), up_ne (by omega), up_ne (by omega), up_ne (by omega)]; exact hB i hi

  · exact h.elim