/-! the reference reads a text: its place, fault, fault's place -/
def TRx (M : Mem) (B : Nat → Int) (e p : Nat) (fk fp : Int) : Prop := M 159 2 = (e : Int) ∧ M 159 4 = (p : Int) ∧ M 159 5 = fk ∧ M 159 6 = fp ∧ e ≤ 600 ∧ p ≤ e ∧ ∀ i, i < 600 → M 160 i = B i ∧ 0 ≤ B i ∧ B i < 256
def TFr (M M' : Mem) : Prop := ∀ u v, ¬ (u = 159 ∧ 4 ≤ v ∧ v ≤ 6) → M' u v = M u v
theorem TFr.tr {M M1 M2 : Mem} (h : TFr M M1) (h2 : TFr M1 M2) : TFr M M2 := fun u v hu => (h2 u v hu).trans (h u v hu)
theorem TFr.rf (M : Mem) : TFr M M := fun _ _ _ => rfl
def btF (B : Nat → Int) (e k : Nat) : Int := if k < e then B k else -1
def G_X11_byteAt : FN := fun as M Q => match as with
  | [.inr (.inl k), .inl x] => ∃ B e p fk fp, ∃ n : Nat, (k = 159 ∧ x = (n : Int)) ∧ TRx M B e p fk fp ∧ Q (some (vI (btF B e n))) M
  | _ => False
def G_X11_blanks : FN := fun as M Q => match as with
  | [.inr (.inl k)] => ∃ B e p fk fp, k = 159 ∧ TRx M B e p fk fp ∧ ∀ M', TFr M M' → TRx M' B e (sk cBl B e p) fk fp → Q none M'
  | _ => False
def G_X11_skipWord : FN := fun as M Q => match as with
  | [.inr (.inl k)] => ∃ B e p fk fp, k = 159 ∧ TRx M B e p fk fp ∧ ∀ M', TFr M M' → TRx M' B e (sk cLt B e p) fk fp → Q none M'
  | _ => False
def G_X11_wrong : FN := fun as M Q => match as with
  | [.inr (.inl k), .inl w, .inl here] => ∃ B e p fk fp, k = 159 ∧ TRx M B e p fk fp ∧ ∀ M', TFr M M' → TRx M' B e p (rfK fk w) (if fk = 0 then here else fp) → Q none M'
  | _ => False
def b_X11_byteAt_0 : List AT := [tx_il 1, tx_al 0, tx_gi 11 2, tx_cmp r_lt 12, tx_ic (-1), tx_fall 18]
def b_X11_byteAt_12 : List AT := [tx_al 0, tx_gr 11 1, tx_il 1, tx_ia, tx_fall 18]
def b_X11_byteAt_18 : List AT := [tx_ri]
def R_X11_byteAt (J : JT) (Q : QT) : Prop := (∀ ls st M, wpl J Q b_X11_byteAt_0 ls st M → J 0 ls st M) ∧ (∀ ls st M, wpl J Q b_X11_byteAt_12 ls st M → J 12 ls st M) ∧ (∀ ls st M, wpl J Q b_X11_byteAt_18 ls st M → J 18 ls st M)
theorem R_X11_byteAt_0 {J : JT} {Q : QT} (R : R_X11_byteAt J Q) {ls : Ls} {st : St} {M : Mem} (h : wpl J Q b_X11_byteAt_0 ls st M) : J 0 ls st M := R.1 ls st M h
theorem R_X11_byteAt_12 {J : JT} {Q : QT} (R : R_X11_byteAt J Q) {ls : Ls} {st : St} {M : Mem} (h : wpl J Q b_X11_byteAt_12 ls st M) : J 12 ls st M := R.2.1 ls st M h
theorem R_X11_byteAt_18 {J : JT} {Q : QT} (R : R_X11_byteAt J Q) {ls : Ls} {st : St} {M : Mem} (h : wpl J Q b_X11_byteAt_18 ls st M) : J 18 ls st M := R.2.2 ls st M h
def b_X11_blanks_0 : List AT := [tx_al 0, tx_al 0, tx_gi 11 4, tx_callv 11 (nf G_X11_byteAt) 1, tx_ic 32, tx_cmp r_ne 26, tx_al 0, tx_dup, tx_gi 11 4, tx_ic 1, tx_bin f_add, tx_pi 11 4, tx_fall 0]
def b_X11_blanks_26 : List AT := [tx_rv]
def R_X11_blanks (J : JT) (Q : QT) : Prop := (∀ ls st M, wpl J Q b_X11_blanks_0 ls st M → J 0 ls st M) ∧ (∀ ls st M, wpl J Q b_X11_blanks_26 ls st M → J 26 ls st M)
theorem R_X11_blanks_0 {J : JT} {Q : QT} (R : R_X11_blanks J Q) {ls : Ls} {st : St} {M : Mem} (h : wpl J Q b_X11_blanks_0 ls st M) : J 0 ls st M := R.1 ls st M h
theorem R_X11_blanks_26 {J : JT} {Q : QT} (R : R_X11_blanks J Q) {ls : Ls} {st : St} {M : Mem} (h : wpl J Q b_X11_blanks_26 ls st M) : J 26 ls st M := R.2 ls st M h
def b_X11_skipWord_0 : List AT := [tx_al 0, tx_al 0, tx_gi 11 4, tx_callv 11 (nf G_X11_byteAt) 1, tx_ic 97, tx_cmp r_lt 39, tx_al 0, tx_al 0, tx_gi 11 4, tx_callv 11 (nf G_X11_byteAt) 1, tx_ic 122, tx_cmp r_gt 39, tx_al 0, tx_dup, tx_gi 11 4, tx_ic 1, tx_bin f_add, tx_pi 11 4, tx_fall 0]
def b_X11_skipWord_39 : List AT := [tx_rv]
def R_X11_skipWord (J : JT) (Q : QT) : Prop := (∀ ls st M, wpl J Q b_X11_skipWord_0 ls st M → J 0 ls st M) ∧ (∀ ls st M, wpl J Q b_X11_skipWord_39 ls st M → J 39 ls st M)
theorem R_X11_skipWord_0 {J : JT} {Q : QT} (R : R_X11_skipWord J Q) {ls : Ls} {st : St} {M : Mem} (h : wpl J Q b_X11_skipWord_0 ls st M) : J 0 ls st M := R.1 ls st M h
theorem R_X11_skipWord_39 {J : JT} {Q : QT} (R : R_X11_skipWord J Q) {ls : Ls} {st : St} {M : Mem} (h : wpl J Q b_X11_skipWord_39 ls st M) : J 39 ls st M := R.2 ls st M h
def b_X11_wrong_0 : List AT := [tx_al 0, tx_gi 11 5, tx_ifz r_ne 17, tx_al 0, tx_il 1, tx_pi 11 5, tx_al 0, tx_il 2, tx_pi 11 6, tx_fall 17]
def b_X11_wrong_17 : List AT := [tx_rv]
def R_X11_wrong (J : JT) (Q : QT) : Prop := (∀ ls st M, wpl J Q b_X11_wrong_0 ls st M → J 0 ls st M) ∧ (∀ ls st M, wpl J Q b_X11_wrong_17 ls st M → J 17 ls st M)
theorem R_X11_wrong_0 {J : JT} {Q : QT} (R : R_X11_wrong J Q) {ls : Ls} {st : St} {M : Mem} (h : wpl J Q b_X11_wrong_0 ls st M) : J 0 ls st M := R.1 ls st M h
theorem R_X11_wrong_17 {J : JT} {Q : QT} (R : R_X11_wrong J Q) {ls : Ls} {st : St} {M : Mem} (h : wpl J Q b_X11_wrong_17 ls st M) : J 17 ls st M := R.2 ls st M h
theorem P_X11_byteAt {J : JT} {Q : QT} (R : R_X11_byteAt J Q) {as : List Vl} {M : Mem} (h : nf G_X11_byteAt as M Q) : (enL as).length ≤ 2 ∧ J 0 (padL 2 (enL as)) [] M := by
  unfold nf G_X11_byteAt at h
  split at h
  · rename_i k x
    obtain ⟨B, e, p, fk, fp, n, ⟨rfl, hx⟩, ts, hQ⟩ := h
    unfold btF at hQ
    refine ⟨Nat.le_of_ble_eq_true rfl, R_X11_byteAt_0 R (an o159 (br (fun g => R_X11_byteAt_12 R (an o159 ?_)) (fun g => R_X11_byteAt_18 R ?_)))⟩
    · have g : x < M 159 2 := g
      rw [ts.1] at g
      have he := ts.2.2.2.2.1
      rw [if_pos (by omega)] at hQ
      have hxn : x.toNat = n := by omega
      refine an (ak_of sh160 (by omega) (by omega)) (R_X11_byteAt_18 R ?_)
      show Q (.inl (some (vI (M 160 x.toNat)))) M
      rw [hxn, (ts.2.2.2.2.2.2 n (by omega)).1]
      exact hQ
    · have g : ¬ x < M 159 2 := g
      rw [ts.1] at g
      rw [if_neg (by omega)] at hQ
      exact hQ
  · exact h.elim
theorem TRx.mv {M : Mem} {B : Nat → Int} {e p : Nat} {fk fp : Int} (h : TRx M B e p fk fp) (hp : p < e) : TRx (up M 159 4 (f_add (M 159 4) 1)) B e (p + 1) fk fp := by
  obtain ⟨h1, h2, h3, h4, h5, h6, h7⟩ := h
  have ea : f_add (M 159 4) 1 = ((p + 1 : Nat) : Int) := by rw [h2]; exact w1 (by omega) (by omega) (by omega)
  rw [ea]
  clear ea
  exact ⟨by rw [up_ne (by omega)]; exact h1, up_eq, by rw [up_ne (by omega)]; exact h3, by rw [up_ne (by omega)]; exact h4, h5, by omega, fun i hi => by rw [up_ne (by omega)]; exact h7 i hi⟩
theorem TFr.mv (M : Mem) (x : Int) : TFr M (up M 159 4 x) := fun u v hu => up_ne (by omega)
theorem P_X11_blanks {J : JT} {Q : QT} (R : R_X11_blanks J Q) {as : List Vl} {M : Mem} (h : nf G_X11_blanks as M Q) : (enL as).length ≤ 1 ∧ J 0 (padL 1 (enL as)) [] M := by
  unfold nf G_X11_blanks at h
  split at h
  · rename_i k
    obtain ⟨B, e, p, fk, fp, rfl, ts, hQ⟩ := h
    have key : ∀ d p : Nat, d = e - p → ∀ M1 : Mem, TRx M1 B e p fk fp → (∀ M', TFr M1 M' → TRx M' B e (sk cBl B e p) fk fp → Q (.inl none) M') → J 0 [some (vR 159)] [] M1 := by
      intro d
      induction d with
      | zero =>
        intro p hd M1 ts hq
        have pe : p = e := by have := ts.2.2.2.2.2.1; omega
        refine R_X11_blanks_0 R (an o159 (an o159 ⟨B, e, p, fk, fp, p, ⟨rfl, ts.2.1⟩, ts, ?_⟩))
        unfold btF
        rw [if_neg (by omega)]
        refine bt (by decide) (R_X11_blanks_26 R (hq M1 (TFr.rf M1) ?_))
        have es : sk cBl B e p = p := by rw [pe, sk_e]
        rw [es]
        exact ts
      | succ d ih =>
        intro p hd M1 ts hq
        have pe : p < e := by omega
        refine R_X11_blanks_0 R (an o159 (an o159 ⟨B, e, p, fk, fp, p, ⟨rfl, ts.2.1⟩, ts, ?_⟩))
        unfold btF
        rw [if_pos pe]
        refine br (fun g => R_X11_blanks_26 R (hq M1 (TFr.rf M1) ?_)) (fun g => an o159 (an o159 (ih (p + 1) (by omega) _ (ts.mv pe) (fun M' tf ts' => hq M' ((TFr.mv M1 _).tr tf) ?_))))
        · have g : ¬ B p = 32 := g
          rw [sk_n pe (by simp [cBl, g])]
          exact ts
        · have g : B p = 32 := Classical.not_not.mp g
          rw [sk_y pe (by simp [cBl, g])]
          exact ts'
    exact ⟨Nat.le_of_ble_eq_true rfl, key _ p rfl M ts hQ⟩
  · exact h.elim
theorem P_X11_skipWord {J : JT} {Q : QT} (R : R_X11_skipWord J Q) {as : List Vl} {M : Mem} (h : nf G_X11_skipWord as M Q) : (enL as).length ≤ 1 ∧ J 0 (padL 1 (enL as)) [] M := by
  unfold nf G_X11_skipWord at h
  split at h
  · rename_i k
    obtain ⟨B, e, p, fk, fp, rfl, ts, hQ⟩ := h
    have key : ∀ d p : Nat, d = e - p → ∀ M1 : Mem, TRx M1 B e p fk fp → (∀ M', TFr M1 M' → TRx M' B e (sk cLt B e p) fk fp → Q (.inl none) M') → J 0 [some (vR 159)] [] M1 := by
      intro d
      induction d with
      | zero =>
        intro p hd M1 ts hq
        have pe : p = e := by have := ts.2.2.2.2.2.1; omega
        refine R_X11_skipWord_0 R (an o159 (an o159 ⟨B, e, p, fk, fp, p, ⟨rfl, ts.2.1⟩, ts, ?_⟩))
        unfold btF
        rw [if_neg (by omega)]
        refine bt (by decide) (R_X11_skipWord_39 R (hq M1 (TFr.rf M1) ?_))
        have es : sk cLt B e p = p := by rw [pe, sk_e]
        rw [es]
        exact ts
      | succ d ih =>
        intro p hd M1 ts hq
        have pe : p < e := by omega
        have hb : btF B e p = B p := by unfold btF; rw [if_pos pe]
        have no : ¬ cLt (B p) = true → J 39 [some (vR 159)] [] M1 := fun z => R_X11_skipWord_39 R (hq M1 (TFr.rf M1) (by rw [sk_n pe z]; exact ts))
        refine R_X11_skipWord_0 R (an o159 (an o159 ⟨B, e, p, fk, fp, p, ⟨rfl, ts.2.1⟩, ts, ?_⟩))
        rw [hb]
        refine br (fun g => no ?_) (fun g => an o159 (an o159 ⟨B, e, p, fk, fp, p, ⟨rfl, ts.2.1⟩, ts, ?_⟩))
        · have g : B p < 97 := g
          simp only [cLt, Bool.and_eq_true, decide_eq_true_eq]
          omega
        · have g : ¬ B p < 97 := g
          rw [hb]
          refine br (fun g2 => no ?_) (fun g2 => an o159 (an o159 (ih (p + 1) (by omega) _ (ts.mv pe) (fun M' tf ts' => hq M' ((TFr.mv M1 _).tr tf) ?_))))
          · have g2 : 122 < B p := g2
            simp only [cLt, Bool.and_eq_true, decide_eq_true_eq]
            omega
          · have g2 : ¬ 122 < B p := g2
            rw [sk_y pe (by simp only [cLt, Bool.and_eq_true, decide_eq_true_eq]; omega)]
            exact ts'
    exact ⟨Nat.le_of_ble_eq_true rfl, key _ p rfl M ts hQ⟩
  · exact h.elim
theorem P_X11_wrong {J : JT} {Q : QT} (R : R_X11_wrong J Q) {as : List Vl} {M : Mem} (h : nf G_X11_wrong as M Q) : (enL as).length ≤ 3 ∧ J 0 (padL 3 (enL as)) [] M := by
  unfold nf G_X11_wrong at h
  split at h
  · rename_i k w here
    obtain ⟨B, e, p, fk, fp, rfl, ts, hQ⟩ := h
    refine ⟨Nat.le_of_ble_eq_true rfl, R_X11_wrong_0 R (an o159 (br (fun g => R_X11_wrong_17 R (hQ M (TFr.rf M) ?_)) (fun g => an o159 (an o159 (R_X11_wrong_17 R (hQ _ (fun u v hu => ?_) ?_))))))⟩
    · have g : ¬ M 159 5 = 0 := g
      rw [ts.2.2.1] at g
      unfold rfK
      rw [if_neg g, if_neg g]
      exact ts
    · rw [up_ne (by omega), up_ne (by omega)]
    · have g : M 159 5 = 0 := Classical.not_not.mp g
      rw [ts.2.2.1] at g
      unfold rfK
      rw [if_pos g, if_pos g]
      obtain ⟨h1, h2, h3, h4, h5, h6, h7⟩ := ts
      exact ⟨by rw [up_ne (by omega), up_ne (by omega)]; exact h1, by rw [up_ne (by omega), up_ne (by omega)]; exact h2, by rw [up_ne (by omega), up_eq], up_eq, h5, h6, fun i hi => by rw [up_ne (by omega), up_ne (by omega)]; exact h7 i hi⟩
  · exact h.elim
def G_X11_number : FN := fun as M Q => match as with
  | [.inr (.inl k), .inl lo, .inl hi] => ∃ B e p fk fp, (k = 159 ∧ hi < 100000) ∧ TRx M B e p fk fp ∧ (¬ fk = 0 → Q (some (vI 0)) M) ∧ (fk = 0 → ∀ (M' : Mem) (t q : Nat) (v : Int), t = sk cBl B e p → q = sk cDg B e t → v = dgV B t (q - t) → TFr M M' → TRx M' B e q (nmK lo hi t q v) (nmP (nmK lo hi t q v) t fp) → Q (some (vI (if nmK lo hi t q v = 0 then v else 0))) M')
  | _ => False
def b_X11_number_0 : List AT := [tx_al 0, tx_gi 11 5, tx_ifz r_eq 9, tx_ic 0, tx_ri]
def b_X11_number_9 : List AT := [tx_al 0, tx_callv 11 (nf G_X11_blanks) 0, tx_al 0, tx_gi 11 4, tx_is 3, tx_ic 0, tx_is 4, tx_al 0, tx_al 0, tx_gi 11 4, tx_callv 11 (nf G_X11_byteAt) 1, tx_call (nf G_X11_isDigit) 1, tx_ifz r_ne 44, tx_al 0, tx_ic 1, tx_al 0, tx_gi 11 4, tx_callv 11 (nf G_X11_wrong) 2, tx_fall 44]
def b_X11_number_44 : List AT := [tx_al 0, tx_al 0, tx_gi 11 4, tx_callv 11 (nf G_X11_byteAt) 1, tx_call (nf G_X11_isDigit) 1, tx_ifz r_eq 106, tx_ic 10, tx_il 4, tx_bin f_mul, tx_al 0, tx_al 0, tx_gi 11 4, tx_callv 11 (nf G_X11_byteAt) 1, tx_bin f_add, tx_ic 48, tx_bin f_sub, tx_is 4, tx_il 4, tx_ic 100000, tx_cmp r_le 89, tx_ic 100000, tx_fall 91]
def b_X11_number_89 : List AT := [tx_il 4, tx_fall 91]
def b_X11_number_91 : List AT := [tx_is 4, tx_al 0, tx_dup, tx_gi 11 4, tx_ic 1, tx_bin f_add, tx_pi 11 4, tx_fall 44]
def b_X11_number_106 : List AT := [tx_il 4, tx_il 1, tx_il 2, tx_call (nf G_X11_in) 3, tx_ifz r_ne 122, tx_al 0, tx_ic 2, tx_il 3, tx_callv 11 (nf G_X11_wrong) 2, tx_fall 122]
def b_X11_number_122 : List AT := [tx_al 0, tx_gi 11 5, tx_ifz r_ne 134, tx_il 4, tx_fall 135]
def b_X11_number_134 : List AT := [tx_ic 0, tx_fall 135]
def b_X11_number_135 : List AT := [tx_ri]
def R_X11_number (J : JT) (Q : QT) : Prop := (∀ ls st M, wpl J Q b_X11_number_0 ls st M → J 0 ls st M) ∧ (∀ ls st M, wpl J Q b_X11_number_9 ls st M → J 9 ls st M) ∧ (∀ ls st M, wpl J Q b_X11_number_44 ls st M → J 44 ls st M) ∧ (∀ ls st M, wpl J Q b_X11_number_89 ls st M → J 89 ls st M) ∧ (∀ ls st M, wpl J Q b_X11_number_91 ls st M → J 91 ls st M) ∧ (∀ ls st M, wpl J Q b_X11_number_106 ls st M → J 106 ls st M) ∧ (∀ ls st M, wpl J Q b_X11_number_122 ls st M → J 122 ls st M) ∧ (∀ ls st M, wpl J Q b_X11_number_134 ls st M → J 134 ls st M) ∧ (∀ ls st M, wpl J Q b_X11_number_135 ls st M → J 135 ls st M)
theorem R_X11_number_0 {J : JT} {Q : QT} (R : R_X11_number J Q) {ls : Ls} {st : St} {M : Mem} (h : wpl J Q b_X11_number_0 ls st M) : J 0 ls st M := R.1 ls st M h
theorem R_X11_number_9 {J : JT} {Q : QT} (R : R_X11_number J Q) {ls : Ls} {st : St} {M : Mem} (h : wpl J Q b_X11_number_9 ls st M) : J 9 ls st M := R.2.1 ls st M h
theorem R_X11_number_44 {J : JT} {Q : QT} (R : R_X11_number J Q) {ls : Ls} {st : St} {M : Mem} (h : wpl J Q b_X11_number_44 ls st M) : J 44 ls st M := R.2.2.1 ls st M h
theorem R_X11_number_89 {J : JT} {Q : QT} (R : R_X11_number J Q) {ls : Ls} {st : St} {M : Mem} (h : wpl J Q b_X11_number_89 ls st M) : J 89 ls st M := R.2.2.2.1 ls st M h
theorem R_X11_number_91 {J : JT} {Q : QT} (R : R_X11_number J Q) {ls : Ls} {st : St} {M : Mem} (h : wpl J Q b_X11_number_91 ls st M) : J 91 ls st M := R.2.2.2.2.1 ls st M h
theorem R_X11_number_106 {J : JT} {Q : QT} (R : R_X11_number J Q) {ls : Ls} {st : St} {M : Mem} (h : wpl J Q b_X11_number_106 ls st M) : J 106 ls st M := R.2.2.2.2.2.1 ls st M h
theorem R_X11_number_122 {J : JT} {Q : QT} (R : R_X11_number J Q) {ls : Ls} {st : St} {M : Mem} (h : wpl J Q b_X11_number_122 ls st M) : J 122 ls st M := R.2.2.2.2.2.2.1 ls st M h
theorem R_X11_number_134 {J : JT} {Q : QT} (R : R_X11_number J Q) {ls : Ls} {st : St} {M : Mem} (h : wpl J Q b_X11_number_134 ls st M) : J 134 ls st M := R.2.2.2.2.2.2.2.1 ls st M h
theorem R_X11_number_135 {J : JT} {Q : QT} (R : R_X11_number J Q) {ls : Ls} {st : St} {M : Mem} (h : wpl J Q b_X11_number_135 ls st M) : J 135 ls st M := R.2.2.2.2.2.2.2.2 ls st M h
theorem sk_id {c : Int → Bool} {B : Nat → Int} {e p : Nat} (h : p ≤ e) : sk c B e (sk c B e p) = sk c B e p := by
  have hb := sk_bd c B h
  by_cases q : sk c B e p = e
  · rw [q, sk_e]
  · by_cases z : c (B (sk c B e p)) = true
    · exfalso
      -- the place where it stopped isn't one to be passed over
      have key : ∀ f p, p + f = e → skp c B f p < e → ¬ c (B (skp c B f p)) = true := by
        intro f
        induction f with
        | zero => intro p hp hl; rw [skp] at hl; omega
        | succ f ih =>
          intro p hp hl
          rw [skp] at hl ⊢
          by_cases q2 : c (B p) = true
          · rw [if_pos q2] at hl ⊢
            exact ih (p + 1) (by omega) hl
          · rw [if_neg q2]
            exact q2
      exact key (e - p) p (by omega) (show sk c B e p < e by omega) z
    · exact sk_n (by omega) z
theorem dg_min5 {v d : Int} (h0 : 0 ≤ v) (h1 : 0 ≤ d) (h2 : d ≤ 9) : min (10 * min v 100000 + d) 100000 = min (10 * v + d) 100000 := by omega
theorem P_X11_number {J : JT} {Q : QT} (R : R_X11_number J Q) {as : List Vl} {M : Mem} (h : nf G_X11_number as M Q) : (enL as).length ≤ 5 ∧ J 0 (padL 5 (enL as)) [] M := by
  unfold nf G_X11_number at h
  split at h
  · rename_i k lo hi
    obtain ⟨B, e, p, fk, fp, ⟨rfl, hhi⟩, ts, hQ1, hQ2⟩ := h
    refine ⟨Nat.le_of_ble_eq_true rfl, R_X11_number_0 R (an o159 (br (fun g => R_X11_number_9 R (an o159 ⟨B, e, p, fk, fp, rfl, ts, fun M1 tf1 ts1 => ?_⟩)) (fun g => ?_)))⟩
    · have g : M 159 5 = 0 := g
      rw [ts.2.2.1] at g
      have hq := hQ2 g
      generalize ht : sk cBl B e p = t at ts1
      have t0 : t ≤ e := ts1.2.2.2.2.2.1
      have e600 := ts1.2.2.2.2.1
      -- the end
      have fin : ∀ (M2 : Mem) (y : Int) (q : Nat) (fk2 fp2 : Int), TFr M M2 → q = sk cDg B e t → y = min (dgV B t (q - t)) 100000 → TRx M2 B e q fk2 fp2 → (q = t → fk2 = 1 ∧ fp2 = (t : Int)) → (¬ q = t → fk2 = 0 ∧ fp2 = fp) → 0 ≤ dgV B t (q - t) → J 106 [some (vR 159), some (vI lo), some (vI hi), some (vI (t : Int)), some (vI y)] [] M2 := by
        intro M2 y q fk2 fp2 tf hq2 hy ts2 c1 c2 v0
        have out : ∀ (M3 : Mem), TFr M M3 → TRx M3 B e q (nmK lo hi t q (dgV B t (q - t))) (nmP (nmK lo hi t q (dgV B t (q - t))) t fp) → J 122 [some (vR 159), some (vI lo), some (vI hi), some (vI (t : Int)), some (vI y)] [] M3 := by
          intro M3 tf3 ts3
          have hq3 := hq M3 t q _ ht.symm hq2 rfl tf3 ts3
          refine R_X11_number_122 R (an o159 (br (fun z => R_X11_number_134 R (R_X11_number_135 R ?_)) (fun z => R_X11_number_135 R ?_)))
          · have z : ¬ M3 159 5 = 0 := z
            rw [ts3.2.2.1] at z
            rw [if_neg z] at hq3
            exact hq3
          · have z : M3 159 5 = 0 := Classical.not_not.mp z
            rw [ts3.2.2.1] at z
            rw [if_pos z] at hq3
            have ey : y = dgV B t (q - t) := by
              unfold nmK at z
              by_cases c : q = t
              · rw [if_pos c] at z; exact absurd z (by decide)
              · rw [if_neg c] at z
                by_cases c' : dgV B t (q - t) < lo ∨ hi < dgV B t (q - t)
                · rw [if_pos c'] at z; exact absurd z (by decide)
                · omega
            rw [ey]
            exact hq3
        refine R_X11_number_106 R (br (fun c => bt (by decide) (out M2 tf ?_)) (fun c => bf (by decide) (an o159 ⟨B, e, q, fk2, fp2, rfl, ts2, fun M3 tf3 ts3 => out M3 (tf.tr tf3) ?_⟩)))
        · unfold nmP nmK
          by_cases z : q = t
          · rw [if_pos z, if_neg (by decide)]
            obtain ⟨z1, z2⟩ := c1 z
            rw [z1, z2] at ts2
            exact ts2
          · obtain ⟨z1, z2⟩ := c2 z
            rw [z1, z2] at ts2
            rw [if_neg z, if_neg (by omega), if_pos rfl]
            exact ts2
        · unfold nmP nmK
          by_cases z : q = t
          · obtain ⟨z1, z2⟩ := c1 z
            rw [z1, z2] at ts3
            rw [if_pos z, if_neg (by decide)]
            exact ts3
          · obtain ⟨z1, z2⟩ := c2 z
            rw [z1, z2] at ts3
            rw [if_neg z, if_pos (by omega), if_neg (by decide)]
            exact ts3
      -- the digits
      have loop : ∀ d q : Nat, d = e - q → t ≤ q → ∀ (M2 : Mem) (y fk2 fp2 : Int), TFr M M2 → TRx M2 B e q fk2 fp2 → (∀ i, t ≤ i → i < q → cDg (B i) = true) → sk cDg B e q = sk cDg B e t → y = min (dgV B t (q - t)) 100000 → (sk cDg B e t = t → fk2 = 1 ∧ fp2 = (t : Int)) → (¬ sk cDg B e t = t → fk2 = 0 ∧ fp2 = fp) → J 44 [some (vR 159), some (vI lo), some (vI hi), some (vI (t : Int)), some (vI y)] [] M2 := by
        intro d
        induction d with
        | zero =>
          intro q hd tq M2 y fk2 fp2 tf ts2 hdg hs hy c1 c2
          have pe : q = e := by have := ts2.2.2.2.2.2.1; omega
          have v0 := dgV_nn (B := B) (t := t) (n := q - t) (fun i a b => hdg i a (by omega))
          have hq2 : q = sk cDg B e t := by rw [← hs, pe, sk_e]
          refine R_X11_number_44 R (an o159 (an o159 ⟨B, e, q, fk2, fp2, q, ⟨rfl, ts2.2.1⟩, ts2, ?_⟩))
          unfold btF
          rw [if_neg (by omega)]
          exact br (fun c => absurd c (by decide)) (fun c => bt rfl (fin M2 y q fk2 fp2 tf hq2 hy ts2 (fun z => c1 (by omega)) (fun z => c2 (by omega)) v0))
        | succ d ih =>
          intro q hd tq M2 y fk2 fp2 tf ts2 hdg hs hy c1 c2
          have pe : q < e := by omega
          have hb : btF B e q = B q := by unfold btF; rw [if_pos pe]
          have v0 := dgV_nn (B := B) (t := t) (n := q - t) (fun i a b => hdg i a (by omega))
          refine R_X11_number_44 R (an o159 (an o159 ⟨B, e, q, fk2, fp2, q, ⟨rfl, ts2.2.1⟩, ts2, ?_⟩))
          rw [hb]
          refine br (fun c => bf (by decide) (an o159 (an o159 ⟨B, e, q, fk2, fp2, q, ⟨rfl, ts2.2.1⟩, ts2, ?_⟩))) (fun c => bt rfl ?_)
          · rw [hb]
            have cd : cDg (B q) = true := by simp only [cDg, Bool.and_eq_true, decide_eq_true_eq]; exact c
            have ev : f_sub (f_add (f_mul 10 y) (B q)) 48 = 10 * y + (B q - 48) := by
              unfold f_sub f_add f_mul
              rw [w1 (x := 10 * y) (y := 10 * y) (by omega) (by omega) rfl, w1 (x := 10 * y + B q) (y := 10 * y + B q) (by omega) (by omega) rfl]
              exact w1 (by omega) (by omega) (by omega)
            have en : dgV B t (q + 1 - t) = 10 * dgV B t (q - t) + (B q - 48) := by
              rw [show q + 1 - t = (q - t) + 1 by omega, dgV, show t + (q - t) = q by omega]
              omega
            have dm := dg_min5 (v := dgV B t (q - t)) (d := B q - 48) v0 (by omega) (by omega)
            have nx : ∀ y2 : Int, y2 = min (dgV B t (q + 1 - t)) 100000 → J 91 [some (vR 159), some (vI lo), some (vI hi), some (vI (t : Int)), some (vI (f_sub (f_add (f_mul 10 y) (B q)) 48))] [vI y2] M2 := by
              intro y2 hy2
              refine R_X11_number_91 R (an o159 (an o159 (ih (q + 1) (by omega) (by omega) _ y2 fk2 fp2 (tf.tr (TFr.mv M2 _)) (ts2.mv pe) (fun i a b => ?_) ?_ hy2 c1 c2)))
              · by_cases z : i = q
                · subst z; exact cd
                · exact hdg i a (by omega)
              · rw [← sk_y pe cd]; exact hs
            show (f_sub (f_add (f_mul 10 y) (B q)) 48 ≤ 100000 → _) ∧ (¬ f_sub (f_add (f_mul 10 y) (B q)) 48 ≤ 100000 → _)
            refine br (fun z => R_X11_number_89 R (nx _ ?_)) (fun z => nx 100000 ?_)
            · rw [ev] at z ⊢
              rw [en]
              omega
            · rw [ev] at z
              rw [en]
              omega
          · have cd : ¬ cDg (B q) = true := by simp only [cDg, Bool.and_eq_true, decide_eq_true_eq]; exact c
            have hq2 : q = sk cDg B e t := by rw [← hs, sk_n pe cd]
            exact fin M2 y q fk2 fp2 tf hq2 hy ts2 (fun z => c1 (by omega)) (fun z => c2 (by omega)) v0
      have start : ∀ (M2 : Mem) (fk2 fp2 : Int), TFr M M2 → TRx M2 B e t fk2 fp2 → (sk cDg B e t = t → fk2 = 1 ∧ fp2 = (t : Int)) → (¬ sk cDg B e t = t → fk2 = 0 ∧ fp2 = fp) → J 44 [some (vR 159), some (vI lo), some (vI hi), some (vI (t : Int)), some (vI 0)] [] M2 := fun M2 fk2 fp2 tf ts2 c1 c2 => loop _ t rfl (Nat.le_refl _) M2 0 fk2 fp2 tf ts2 (fun i a b => by omega) rfl (by rw [Nat.sub_self]; show (0 : Int) = min 0 100000; decide) c1 c2
      refine an o159 ?_
      rw [ts1.2.1]
      refine an o159 (an o159 ⟨B, e, t, fk, fp, t, ⟨rfl, ts1.2.1⟩, ts1, ?_⟩)
      have cdt : 48 ≤ btF B e t ∧ btF B e t ≤ 57 ↔ t < e ∧ cDg (B t) = true := by
        unfold btF
        simp only [cDg, Bool.and_eq_true, decide_eq_true_eq]
        by_cases z : t < e
        · rw [if_pos z]; omega
        · rw [if_neg z]; omega
      refine br (fun c => bt (by decide) (start M1 fk fp tf1 ts1 (fun z => ?_) (fun z => ⟨g, rfl⟩))) (fun c => bf (by decide) (an o159 (an o159 ⟨B, e, t, fk, fp, rfl, ts1, fun M2 tf2 ts2 => ?_⟩)))
      · obtain ⟨d1, d2⟩ := cdt.mp c
        exfalso
        rw [sk_y d1 d2] at z
        have := sk_bd cDg B (e := e) (p := t + 1) (by omega)
        omega
      · have st : sk cDg B e t = t := by
          by_cases z : t < e
          · exact sk_n z (fun z2 => c (cdt.mpr ⟨z, z2⟩))
          · rw [show t = e by omega, sk_e]
        refine start M2 _ _ (tf1.tr tf2) ts2 (fun z => ?_) (fun z => absurd st z)
        unfold rfK
        rw [if_pos g, if_pos g]
        exact ⟨rfl, ts1.2.1⟩
    · have g : ¬ M 159 5 = 0 := g
      rw [ts.2.2.1] at g
      exact hQ1 g

  · exact h.elim