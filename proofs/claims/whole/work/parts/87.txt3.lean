/-! the reference's reading, by states of the text -/
def TRs (M : Mem) (B : Nat → Int) (e : Nat) (s : Tp) : Prop := ∃ p, TRx M B e p s.2.2.1 s.2.2.2 ∧ (s.2.2.1 = 0 → p = s.1)
theorem TRs.kept {M M' : Mem} {B : Nat → Int} {e : Nat} {s : Tp} (h : TRs M B e s) (f : ∀ v, 2 ≤ v → v ≤ 6 → M' 159 v = M 159 v) (g : ∀ i, M' 160 i = M 160 i) : TRs M' B e s := by
  obtain ⟨p, ⟨h1, h2, h3, h4, h5, h6, h7⟩, hp⟩ := h
  exact ⟨p, ⟨by rw [f _ (by omega) (by omega)]; exact h1, by rw [f _ (by omega) (by omega)]; exact h2, by rw [f _ (by omega) (by omega)]; exact h3, by rw [f _ (by omega) (by omega)]; exact h4, h5, h6, fun i hi => by rw [g]; exact h7 i hi⟩, hp⟩
theorem TRs.at {M : Mem} {B : Nat → Int} {e : Nat} {s : Tp} (h : TRs M B e s) (z : s.2.2.1 = 0) : M 159 4 = (s.1 : Int) := by
  obtain ⟨p, h1, hp⟩ := h
  rw [h1.2.1, hp z]
theorem TRs.fk {M : Mem} {B : Nat → Int} {e : Nat} {s : Tp} (h : TRs M B e s) : M 159 5 = s.2.2.1 := by
  obtain ⟨p, h1, hp⟩ := h
  exact h1.2.2.1
theorem TRs.fp {M : Mem} {B : Nat → Int} {e : Nat} {s : Tp} (h : TRs M B e s) : M 159 6 = s.2.2.2 := by
  obtain ⟨p, h1, hp⟩ := h
  exact h1.2.2.2.1
theorem r_num {M : Mem} {B : Nat → Int} {e : Nat} {s : Tp} {lo hi : Int} {Q : QT} (hh : hi < 100000) (ts : TRs M B e s) (h : ∀ (M' : Mem) (r : Int), TFr M M' → TRs M' B e (nuT B e lo hi s) → ((nuT B e lo hi s).2.2.1 = 0 → r = nuV B e s) → (¬ (nuT B e lo hi s).2.2.1 = 0 → r = 0) → Q (.inl (some (vI r))) M') : nf G_X11_number [.inr (.inl 159), .inl lo, .inl hi] M Q := by
  obtain ⟨p, tx, hp⟩ := ts
  refine ⟨B, e, p, s.2.2.1, s.2.2.2, ⟨rfl, hh⟩, tx, fun q => ?_, fun q M' t q2 v ht hq hv tf ts2 => ?_⟩
  · have e1 : nuT B e lo hi s = s := by unfold nuT; rw [if_neg q]
    refine h M 0 (TFr.rf M) (by rw [e1]; exact ⟨p, tx, hp⟩) (fun z => ?_) (fun _ => rfl)
    rw [e1] at z
    exact absurd z q
  · have hps := hp q
    subst hps
    have en : nuT B e lo hi s = (q2, t, nmK lo hi t q2 v, nmP (nmK lo hi t q2 v) t s.2.2.2) := by
      unfold nuT
      rw [if_pos q, ← ht, ← hq, ← hv]
    have ev : nuV B e s = v := by unfold nuV; rw [← ht, ← hq, ← hv]
    refine h M' _ tf (by rw [en]; exact ⟨q2, ts2, fun _ => rfl⟩) (fun z => ?_) (fun z => ?_)
    · rw [en] at z
      have z : nmK lo hi t q2 v = 0 := z
      rw [if_pos z, ev]
    · rw [en] at z
      have z : ¬ nmK lo hi t q2 v = 0 := z
      rw [if_neg z]
theorem r_bl {M : Mem} {B : Nat → Int} {e : Nat} {s : Tp} {Q : QT} (ts : TRs M B e s) (h : ∀ M' : Mem, TFr M M' → TRs M' B e (sk cBl B e s.1, s.2) → Q (.inl none) M') : nf G_X11_blanks [.inr (.inl 159)] M Q := by
  obtain ⟨p, tx, hp⟩ := ts
  refine ⟨B, e, p, s.2.2.1, s.2.2.2, rfl, tx, fun M' tf ts2 => h M' tf ⟨_, ts2, fun z => ?_⟩⟩
  rw [hp z]
theorem r_wr {M : Mem} {B : Nat → Int} {e : Nat} {s : Tp} {w here : Int} {Q : QT} (ts : TRs M B e s) (hh : s.2.2.1 = 0 → here = (s.2.1 : Int)) (hw : ¬ w = 0) (h : ∀ M' : Mem, TFr M M' → TRs M' B e (reT w s) → Q (.inl none) M') : nf G_X11_wrong [.inr (.inl 159), .inl w, .inl here] M Q := by
  obtain ⟨p, tx, hp⟩ := ts
  refine ⟨B, e, p, s.2.2.1, s.2.2.2, rfl, tx, fun M' tf ts2 => h M' tf ⟨p, ?_, fun z => ?_⟩⟩
  · show TRx M' B e p (rfK s.2.2.1 w) (rfP s.2.2.1 s.2.1 s.2.2.2)
    unfold rfP
    by_cases z : s.2.2.1 = 0
    · rw [if_pos z] at ts2 ⊢
      rw [← hh z]
      exact ts2
    · rw [if_neg z] at ts2 ⊢
      exact ts2
  · have z : rfK s.2.2.1 w = 0 := z
    unfold rfK at z
    by_cases q : s.2.2.1 = 0
    · rw [if_pos q] at z; exact absurd z hw
    · rw [if_neg q] at z; exact absurd z q
def G_X11_closes : FN := fun as M Q => match as with
  | [.inr (.inl k)] => ∃ B e s, k = 159 ∧ TRs M B e s ∧ ∀ M', TFr M M' → TRs M' B e (stT B e s) → Q none M'
  | _ => False
def G_X11_starts : FN := fun as M Q => match as with
  | [.inr (.inl k), .inl n] => ∃ B, (k = 159 ∧ 0 ≤ n ∧ n ≤ 600) ∧ (∀ i, i < 600 → M 160 i = B i ∧ 0 ≤ B i ∧ B i < 256) ∧ ∀ M' : Mem, (∀ u v, ¬ (u = 159 ∧ (v = 1 ∨ v = 2 ∨ (4 ≤ v ∧ v ≤ 7))) → M' u v = M u v) → M' 159 1 = 0 → M' 159 7 = 0 → TRx M' B n.toNat (sk cBl B n.toNat 0) 0 (-1) → Q none M'
  | _ => False
noncomputable def kdN (B : Nat → Int) (t q : Nat) : Int := if tf (wdP B t q 0) = true then 0 else if tf (wdP B t q 1) = true then 1 else if tf (wdP B t q 2) = true then 2 else if tf (wdP B t q 4) = true then 3 else if tf (wdP B t q 5) = true then 4 else if tf (wdP B t q 3) = true then 5 else -1
def G_X11_kindHere : FN := fun as M Q => match as with
  | [.inr (.inl k)] => ∃ B e p fp, k = 159 ∧ TRx M B e p 0 fp ∧ ∀ M', TFr M M' → TRx M' B e (sk cBl B e p) 0 fp → Q (some (vI (kdN B (sk cBl B e p) (sk cLt B e (sk cBl B e p))))) M'
  | _ => False
def b_X11_closes_0 : List AT := [tx_al 0, tx_gi 11 5, tx_ifz r_eq 8, tx_rv]
def b_X11_closes_8 : List AT := [tx_al 0, tx_callv 11 (nf G_X11_blanks) 0, tx_al 0, tx_al 0, tx_gi 11 4, tx_callv 11 (nf G_X11_byteAt) 1, tx_ic 59, tx_cmp r_ne 38, tx_al 0, tx_dup, tx_gi 11 4, tx_ic 1, tx_bin f_add, tx_pi 11 4, tx_fall 47]
def b_X11_closes_38 : List AT := [tx_al 0, tx_ic 1, tx_al 0, tx_gi 11 4, tx_callv 11 (nf G_X11_wrong) 2, tx_fall 47]
def b_X11_closes_47 : List AT := [tx_rv]
def R_X11_closes (J : JT) (Q : QT) : Prop := (∀ ls st M, wpl J Q b_X11_closes_0 ls st M → J 0 ls st M) ∧ (∀ ls st M, wpl J Q b_X11_closes_8 ls st M → J 8 ls st M) ∧ (∀ ls st M, wpl J Q b_X11_closes_38 ls st M → J 38 ls st M) ∧ (∀ ls st M, wpl J Q b_X11_closes_47 ls st M → J 47 ls st M)
theorem R_X11_closes_0 {J : JT} {Q : QT} (R : R_X11_closes J Q) {ls : Ls} {st : St} {M : Mem} (h : wpl J Q b_X11_closes_0 ls st M) : J 0 ls st M := R.1 ls st M h
theorem R_X11_closes_8 {J : JT} {Q : QT} (R : R_X11_closes J Q) {ls : Ls} {st : St} {M : Mem} (h : wpl J Q b_X11_closes_8 ls st M) : J 8 ls st M := R.2.1 ls st M h
theorem R_X11_closes_38 {J : JT} {Q : QT} (R : R_X11_closes J Q) {ls : Ls} {st : St} {M : Mem} (h : wpl J Q b_X11_closes_38 ls st M) : J 38 ls st M := R.2.2.1 ls st M h
theorem R_X11_closes_47 {J : JT} {Q : QT} (R : R_X11_closes J Q) {ls : Ls} {st : St} {M : Mem} (h : wpl J Q b_X11_closes_47 ls st M) : J 47 ls st M := R.2.2.2 ls st M h
def b_X11_starts_0 : List AT := [tx_al 0, tx_ic 0, tx_pi 11 1, tx_al 0, tx_il 1, tx_pi 11 2, tx_al 0, tx_ic 0, tx_pi 11 4, tx_al 0, tx_ic 0, tx_pi 11 5, tx_al 0, tx_ic (-1), tx_pi 11 6, tx_al 0, tx_ic 0, tx_pi 11 7, tx_al 0, tx_callv 11 (nf G_X11_blanks) 0, tx_rv]
def R_X11_starts (J : JT) (Q : QT) : Prop := (∀ ls st M, wpl J Q b_X11_starts_0 ls st M → J 0 ls st M)
theorem R_X11_starts_0 {J : JT} {Q : QT} (R : R_X11_starts J Q) {ls : Ls} {st : St} {M : Mem} (h : wpl J Q b_X11_starts_0 ls st M) : J 0 ls st M := R ls st M h
def b_X11_kindHere_0 : List AT := [tx_al 0, tx_ic 16, tx_ic 5, tx_ic 18, tx_ic 19, tx_ic 15, tx_ic 14, tx_call (nf G_X11_six) 6, tx_callv 11 (nf G_X11_isWord) 1, tx_ifz r_eq 23, tx_ic 0, tx_ri]
def b_X11_kindHere_23 : List AT := [tx_al 0, tx_ic 20, tx_ic 8, tx_ic 9, tx_ic 14, tx_ic 7, tx_ic 0, tx_call (nf G_X11_six) 6, tx_callv 11 (nf G_X11_isWord) 1, tx_ifz r_eq 46, tx_ic 1, tx_ri]
def b_X11_kindHere_46 : List AT := [tx_al 0, tx_ic 4, tx_ic 15, tx_ic 15, tx_ic 18, tx_ic 0, tx_ic 0, tx_call (nf G_X11_six) 6, tx_callv 11 (nf G_X11_isWord) 1, tx_ifz r_eq 67, tx_ic 2, tx_ri]
def b_X11_kindHere_67 : List AT := [tx_al 0, tx_ic 13, tx_ic 15, tx_ic 20, tx_ic 9, tx_ic 15, tx_ic 14, tx_call (nf G_X11_six) 6, tx_callv 11 (nf G_X11_isWord) 1, tx_ifz r_eq 91, tx_ic 3, tx_ri]
def b_X11_kindHere_91 : List AT := [tx_al 0, tx_ic 12, tx_ic 1, tx_ic 23, tx_ic 0, tx_ic 0, tx_ic 0, tx_call (nf G_X11_six) 6, tx_callv 11 (nf G_X11_isWord) 1, tx_ifz r_eq 111, tx_ic 4, tx_ri]
def b_X11_kindHere_111 : List AT := [tx_al 0, tx_lc 27, tx_ic 15, tx_ic 21, tx_ic 20, tx_ic 19, tx_ic 9, tx_ic 4, tx_call (nf G_X11_six) 6, tx_lbin f_mulL, tx_lc 5, tx_lbin f_addL, tx_callv 11 (nf G_X11_isWord) 1, tx_ifz r_eq 144, tx_ic 5, tx_fall 145]
def b_X11_kindHere_144 : List AT := [tx_ic (-1), tx_fall 145]
def b_X11_kindHere_145 : List AT := [tx_ri]
def R_X11_kindHere (J : JT) (Q : QT) : Prop := (∀ ls st M, wpl J Q b_X11_kindHere_0 ls st M → J 0 ls st M) ∧ (∀ ls st M, wpl J Q b_X11_kindHere_23 ls st M → J 23 ls st M) ∧ (∀ ls st M, wpl J Q b_X11_kindHere_46 ls st M → J 46 ls st M) ∧ (∀ ls st M, wpl J Q b_X11_kindHere_67 ls st M → J 67 ls st M) ∧ (∀ ls st M, wpl J Q b_X11_kindHere_91 ls st M → J 91 ls st M) ∧ (∀ ls st M, wpl J Q b_X11_kindHere_111 ls st M → J 111 ls st M) ∧ (∀ ls st M, wpl J Q b_X11_kindHere_144 ls st M → J 144 ls st M) ∧ (∀ ls st M, wpl J Q b_X11_kindHere_145 ls st M → J 145 ls st M)
theorem R_X11_kindHere_0 {J : JT} {Q : QT} (R : R_X11_kindHere J Q) {ls : Ls} {st : St} {M : Mem} (h : wpl J Q b_X11_kindHere_0 ls st M) : J 0 ls st M := R.1 ls st M h
theorem R_X11_kindHere_23 {J : JT} {Q : QT} (R : R_X11_kindHere J Q) {ls : Ls} {st : St} {M : Mem} (h : wpl J Q b_X11_kindHere_23 ls st M) : J 23 ls st M := R.2.1 ls st M h
theorem R_X11_kindHere_46 {J : JT} {Q : QT} (R : R_X11_kindHere J Q) {ls : Ls} {st : St} {M : Mem} (h : wpl J Q b_X11_kindHere_46 ls st M) : J 46 ls st M := R.2.2.1 ls st M h
theorem R_X11_kindHere_67 {J : JT} {Q : QT} (R : R_X11_kindHere J Q) {ls : Ls} {st : St} {M : Mem} (h : wpl J Q b_X11_kindHere_67 ls st M) : J 67 ls st M := R.2.2.2.1 ls st M h
theorem R_X11_kindHere_91 {J : JT} {Q : QT} (R : R_X11_kindHere J Q) {ls : Ls} {st : St} {M : Mem} (h : wpl J Q b_X11_kindHere_91 ls st M) : J 91 ls st M := R.2.2.2.2.1 ls st M h
theorem R_X11_kindHere_111 {J : JT} {Q : QT} (R : R_X11_kindHere J Q) {ls : Ls} {st : St} {M : Mem} (h : wpl J Q b_X11_kindHere_111 ls st M) : J 111 ls st M := R.2.2.2.2.2.1 ls st M h
theorem R_X11_kindHere_144 {J : JT} {Q : QT} (R : R_X11_kindHere J Q) {ls : Ls} {st : St} {M : Mem} (h : wpl J Q b_X11_kindHere_144 ls st M) : J 144 ls st M := R.2.2.2.2.2.2.1 ls st M h
theorem R_X11_kindHere_145 {J : JT} {Q : QT} (R : R_X11_kindHere J Q) {ls : Ls} {st : St} {M : Mem} (h : wpl J Q b_X11_kindHere_145 ls st M) : J 145 ls st M := R.2.2.2.2.2.2.2 ls st M h
theorem P_X11_closes {J : JT} {Q : QT} (R : R_X11_closes J Q) {as : List Vl} {M : Mem} (h : nf G_X11_closes as M Q) : (enL as).length ≤ 1 ∧ J 0 (padL 1 (enL as)) [] M := by
  unfold nf G_X11_closes at h
  split at h
  · rename_i k
    obtain ⟨B, e, s, rfl, ts, hQ⟩ := h
    refine ⟨Nat.le_of_ble_eq_true rfl, R_X11_closes_0 R (an o159 (br (fun g => R_X11_closes_8 R (an o159 (r_bl ts (fun M1 tf1 ts1 => an o159 (an o159 ?_))))) (fun g => ?_)))⟩
    · have g : M 159 5 = 0 := g
      rw [ts.fk] at g
      have a1 : M1 159 4 = ((sk cBl B e s.1 : Nat) : Int) := ts1.at g
      obtain ⟨p1, tx1, hp1⟩ := ts1
      have hp1 := hp1 g
      have hp1 : p1 = sk cBl B e s.1 := hp1
      subst hp1
      unfold stT at hQ
      rw [if_pos g] at hQ
      generalize sk cBl B e s.1 = t at tx1 hQ a1
      have tx1 : TRx M1 B e t s.2.2.1 s.2.2.2 := tx1
      rw [g] at tx1
      refine ⟨B, e, t, 0, s.2.2.2, t, ⟨rfl, a1⟩, tx1, ?_⟩
      by_cases c : t < e ∧ B t = 59
      · have hb : btF B e t = 59 := by unfold btF; rw [if_pos c.1]; exact c.2
        rw [if_pos c] at hQ
        rw [hb]
        refine bf (by decide) (an o159 (an o159 (R_X11_closes_47 R (hQ _ (tf1.tr (TFr.mv M1 _)) ⟨t + 1, tx1.mv c.1, fun _ => rfl⟩))))
      · have hb : ¬ btF B e t = 59 := by
          unfold btF
          by_cases c1 : t < e
          · rw [if_pos c1]; exact fun z => c ⟨c1, z⟩
          · rw [if_neg c1]; decide
        rw [if_neg c] at hQ
        refine bt hb (R_X11_closes_38 R (an o159 (an o159 ⟨B, e, t, 0, s.2.2.2, rfl, tx1, fun M2 tf2 ts2 => R_X11_closes_47 R (hQ M2 (tf1.tr tf2) ⟨t, ?_, fun z => absurd (show (1 : Int) = 0 from z) (by decide)⟩)⟩)))
        rw [if_pos rfl, a1] at ts2
        exact ts2
    · have g : ¬ M 159 5 = 0 := g
      rw [ts.fk] at g
      unfold stT at hQ
      rw [if_neg g] at hQ
      exact hQ M (TFr.rf M) ts
  · exact h.elim
theorem P_X11_starts {J : JT} {Q : QT} (R : R_X11_starts J Q) {as : List Vl} {M : Mem} (h : nf G_X11_starts as M Q) : (enL as).length ≤ 2 ∧ J 0 (padL 2 (enL as)) [] M := by
  unfold nf G_X11_starts at h
  split at h
  · rename_i k n
    obtain ⟨B, ⟨rfl, n0, n1⟩, hb, hQ⟩ := h
    refine ⟨Nat.le_of_ble_eq_true rfl, R_X11_starts_0 R (an o159 (an o159 (an o159 (an o159 (an o159 (an o159 (an o159 ?_)))))))⟩
    generalize hM1 : up (up (up (up (up (up M 159 1 0) 159 2 n) 159 4 0) 159 5 0) 159 6 (-1)) 159 7 0 = M1
    have f1 : ∀ u v, ¬ (u = 159 ∧ (v = 1 ∨ v = 2 ∨ (4 ≤ v ∧ v ≤ 7))) → M1 u v = M u v := fun u v hu => by rw [← hM1, up_ne (by omega), up_ne (by omega), up_ne (by omega), up_ne (by omega), up_ne (by omega), up_ne (by omega)]
    have e1 : M1 159 1 = 0 := by rw [← hM1, up_ne (by omega), up_ne (by omega), up_ne (by omega), up_ne (by omega), up_ne (by omega), up_eq]
    have e2 : M1 159 2 = n := by rw [← hM1, up_ne (by omega), up_ne (by omega), up_ne (by omega), up_ne (by omega), up_eq]
    have e4 : M1 159 4 = 0 := by rw [← hM1, up_ne (by omega), up_ne (by omega), up_ne (by omega), up_eq]
    have e5 : M1 159 5 = 0 := by rw [← hM1, up_ne (by omega), up_ne (by omega), up_eq]
    have e6 : M1 159 6 = -1 := by rw [← hM1, up_ne (by omega), up_eq]
    have e7 : M1 159 7 = 0 := by rw [← hM1, up_eq]
    refine ⟨B, n.toNat, 0, 0, -1, rfl, ⟨by omega, e4, e5, e6, by omega, Nat.zero_le _, fun i hi => by rw [f1 _ _ (by omega)]; exact hb i hi⟩, fun M2 tf2 ts2 => hQ M2 (fun u v hu => ?_) ?_ ?_ ts2⟩
    · rw [tf2 u v (by omega)]; exact f1 u v hu
    · rw [tf2 _ _ (by omega)]; exact e1
    · rw [tf2 _ _ (by omega)]; exact e7
  · exact h.elim
theorem c0 : sixF 16 5 18 19 15 14 = wdC 0 := by decide
theorem c1w : sixF 20 8 9 14 7 0 = wdC 1 := by decide
theorem c2w : sixF 4 15 15 18 0 0 = wdC 2 := by decide
theorem c4w : sixF 13 15 20 9 15 14 = wdC 4 := by decide
theorem c5w : sixF 12 1 23 0 0 0 = wdC 5 := by decide
theorem c3w : f_addL (f_mulL 27 (sixF 15 21 20 19 9 4)) 5 = wdC 3 := by decide
theorem c6w : sixF 12 5 14 4 0 0 = wdC 6 := by decide
/-- whether a word stands here -/
theorem r_wd {M : Mem} {B : Nat → Int} {e p : Nat} {fp w : Int} {i : Nat} {Q : QT} (hi : i < 7) (hw : w = wdC i) (ts : TRx M B e p 0 fp) (h1 : tf (wdP B (sk cBl B e p) (sk cLt B e (sk cBl B e p)) i) = true → ∀ M', TFr M M' → TRx M' B e (sk cBl B e p) 0 fp → Q (.inl (some (vI 1))) M')
    (h2 : ¬ tf (wdP B (sk cBl B e p) (sk cLt B e (sk cBl B e p)) i) = true → ∀ M', TFr M M' → TRx M' B e (sk cBl B e p) 0 fp → Q (.inl (some (vI 0))) M') : nf G_X11_isWord [.inr (.inl 159), .inr (.inr (.inl w))] M Q := by
  have te := (sk_bd cBl B ts.2.2.2.2.2.1).2
  have iff := wh_iff (B := B) (e := e) (t := sk cBl B e p) hi te
  refine ⟨B, e, p, fp, rfl, ts, fun M' tf' ts' => ⟨fun z => h1 (tf_iff.mpr (iff.mp (z.trans hw))) M' tf' ts', fun z => h2 (fun z2 => z ((iff.mpr (tf_iff.mp z2)).trans hw.symm)) M' tf' ts'⟩⟩
theorem P_X11_kindHere {J : JT} {Q : QT} (R : R_X11_kindHere J Q) {as : List Vl} {M : Mem} (h : nf G_X11_kindHere as M Q) : (enL as).length ≤ 1 ∧ J 0 (padL 1 (enL as)) [] M := by
  unfold nf G_X11_kindHere at h
  split at h
  · rename_i k
    obtain ⟨B, e, p, fp, rfl, ts, hQ⟩ := h
    have id1 := sk_id (c := cBl) (B := B) ts.2.2.2.2.2.1
    unfold kdN at hQ
    generalize ht : sk cBl B e p = t at hQ id1
    have stp1 : ∀ M1 : Mem, TRx M1 B e t 0 fp → ∀ {i : Nat} {w : Int} {Q' : QT}, i < 7 → w = wdC i → (tf (wdP B t (sk cLt B e t) i) = true → ∀ M', TFr M1 M' → TRx M' B e t 0 fp → Q' (.inl (some (vI 1))) M') → (¬ tf (wdP B t (sk cLt B e t) i) = true → ∀ M', TFr M1 M' → TRx M' B e t 0 fp → Q' (.inl (some (vI 0))) M') → nf G_X11_isWord [.inr (.inl 159), .inr (.inr (.inl w))] M1 Q' := by
      intro M1 ts1 i w Q' hi hw h1 h2
      refine r_wd hi hw ts1 ?_ ?_
      · rw [id1]; exact h1
      · rw [id1]; exact h2
    refine ⟨Nat.le_of_ble_eq_true rfl, R_X11_kindHere_0 R ⟨by decide, an o159 (r_wd (i := 0) (by decide) c0 ts ?_ ?_)⟩⟩
    · rw [ht]
      intro z M1 tf1 ts1
      rw [if_pos z] at hQ
      exact bf (by decide) (hQ M1 tf1 ts1)
    · rw [ht]
      intro z M1 tf1 ts1
      rw [if_neg z] at hQ
      refine bt rfl (R_X11_kindHere_23 R ⟨by decide, an o159 (stp1 M1 ts1 (i := 1) (by decide) c1w (fun z M2 tf2 ts2 => ?_) (fun z M2 tf2 ts2 => ?_))⟩)
      · rw [if_pos z] at hQ
        exact bf (by decide) (hQ M2 (tf1.tr tf2) ts2)
      · rw [if_neg z] at hQ
        have tf2 := tf1.tr tf2
        refine bt rfl (R_X11_kindHere_46 R ⟨by decide, an o159 (stp1 M2 ts2 (i := 2) (by decide) c2w (fun z M3 tf3 ts3 => ?_) (fun z M3 tf3 ts3 => ?_))⟩)
        · rw [if_pos z] at hQ
          exact bf (by decide) (hQ M3 (tf2.tr tf3) ts3)
        · rw [if_neg z] at hQ
          have tf3 := tf2.tr tf3
          refine bt rfl (R_X11_kindHere_67 R ⟨by decide, an o159 (stp1 M3 ts3 (i := 4) (by decide) c4w (fun z M4 tf4 ts4 => ?_) (fun z M4 tf4 ts4 => ?_))⟩)
          · rw [if_pos z] at hQ
            exact bf (by decide) (hQ M4 (tf3.tr tf4) ts4)
          · rw [if_neg z] at hQ
            have tf4 := tf3.tr tf4
            refine bt rfl (R_X11_kindHere_91 R ⟨by decide, an o159 (stp1 M4 ts4 (i := 5) (by decide) c5w (fun z M5 tf5 ts5 => ?_) (fun z M5 tf5 ts5 => ?_))⟩)
            · rw [if_pos z] at hQ
              exact bf (by decide) (hQ M5 (tf4.tr tf5) ts5)
            · rw [if_neg z] at hQ
              have tf5 := tf4.tr tf5
              refine bt rfl (R_X11_kindHere_111 R ⟨by decide, an o159 (stp1 M5 ts5 (i := 3) (by decide) c3w (fun z M6 tf6 ts6 => ?_) (fun z M6 tf6 ts6 => ?_))⟩)
              · rw [if_pos z] at hQ
                exact bf (by decide) (R_X11_kindHere_145 R (hQ M6 (tf5.tr tf6) ts6))
              · rw [if_neg z] at hQ
                exact bt rfl (R_X11_kindHere_144 R (R_X11_kindHere_145 R (hQ M6 (tf5.tr tf6) ts6)))

  · exact h.elim