noncomputable def clA (B : Nat → Int) (e : Nat) (Ab : Mem) (n p : Nat) (fp : Int) : Mem × Tp := (clM B e Ab (if n < 60 then 1 else 0) (sk cLt B e (sk cBl B e p), sk cBl B e p, 0, fp), stT B e (clT B e Ab (if n < 60 then 1 else 0) (sk cLt B e (sk cBl B e p), sk cBl B e p, 0, fp)))
def G_X11_clause : FN := fun as M Q => match as with
  | [.inr (.inl k)] => ∃ B e p fp Ab, ∃ n : Nat, (k = 159 ∧ n ≤ 60 ∧ M 159 7 = (n : Int)) ∧ TRx M B e p 0 fp ∧ RdP M Ab ∧ ∀ M' : Mem, CFr M M' → TRs M' B e (clA B e Ab n p fp).2 → ((clA B e Ab n p fp).2.2.2.1 = 0 → RdP M' (clA B e Ab n p fp).1 ∧ M' 159 7 = ((n + 1 : Nat) : Int)) → Q none M'
  | _ => False
def b_X11_clause_0 : List AT := [tx_al 0, tx_callv 11 (nf G_X11_kindHere) 0, tx_is 1, tx_il 1, tx_ic (-1), tx_cmp r_ne 22, tx_al 0, tx_ic 1, tx_al 0, tx_gi 11 4, tx_callv 11 (nf G_X11_wrong) 2, tx_fall 48]
def b_X11_clause_22 : List AT := [tx_al 0, tx_gi 11 7, tx_ic 60, tx_cmp r_eq 39, tx_al 0, tx_il 1, tx_callv 11 (nf G_X11_isFull) 1, tx_ifz r_eq 48, tx_fall 39]
def b_X11_clause_39 : List AT := [tx_al 0, tx_ic 3, tx_al 0, tx_gi 11 4, tx_callv 11 (nf G_X11_wrong) 2, tx_fall 48]
def b_X11_clause_48 : List AT := [tx_al 0, tx_gi 11 5, tx_ifz r_eq 56, tx_rv]
def b_X11_clause_56 : List AT := [tx_al 0, tx_callv 11 (nf G_X11_skipWord) 0, tx_al 0, tx_dup, tx_gi 11 7, tx_ic 1, tx_bin f_add, tx_pi 11 7, tx_il 1, tx_sw [(0, 104), (1, 212), (2, 148), (3, 179), (4, 197)] 212]
def b_X11_clause_104 : List AT := tx_al 0 :: tx_gr 11 5 :: tx_al 0 :: tx_gr 11 3 :: tx_ic 0 :: tx_ia :: tx_aa 5 :: tx_as 2 :: tx_al 2 :: tx_ic 0 :: tx_al 0 :: tx_ic 0 :: tx_ic 3 :: tx_callv 11 (nf G_X11_number) 2 :: tx_iax :: tx_al 2 :: tx_ic 1 :: tx_al 0 :: tx_ic 1 :: tx_ic 99 :: tx_callv 11 (nf G_X11_number) 2 :: tx_iax :: tx_al 0 :: tx_gr 11 3 :: tx_ic 0 :: tx_dup2 :: tx_ia :: tx_ic 1 :: tx_bin f_add :: tx_iax :: tx_fall 307 :: []
def b_X11_clause_148 : List AT := [tx_al 0, tx_gr 11 117, tx_al 0, tx_gr 11 3, tx_ic 2, tx_ia, tx_al 0, tx_ic 1, tx_ic 99, tx_callv 11 (nf G_X11_number) 2, tx_iax, tx_al 0, tx_gr 11 3, tx_ic 2, tx_dup2, tx_ia, tx_ic 1, tx_bin f_add, tx_iax, tx_fall 307]
def b_X11_clause_179 : List AT := [tx_al 0, tx_al 0, tx_gr 11 57, tx_al 0, tx_gr 11 3, tx_ic 3, tx_ia, tx_aa 5, tx_callv 11 (nf G_X11_readsMotion) 1, tx_fall 307]
def b_X11_clause_197 : List AT := [tx_al 0, tx_gr 11 3, tx_ic 4, tx_al 0, tx_ic 0, tx_ic 2, tx_callv 11 (nf G_X11_number) 2, tx_iax, tx_fall 307]
def b_X11_clause_212 : List AT := tx_al 0 :: tx_gr 11 27 :: tx_al 0 :: tx_gr 11 3 :: tx_ic 1 :: tx_ia :: tx_aa 5 :: tx_as 2 :: tx_al 2 :: tx_ic 0 :: tx_al 0 :: tx_ic 0 :: tx_al 0 :: tx_gr 11 3 :: tx_ic 0 :: tx_ia :: tx_ic 1 :: tx_bin f_sub :: tx_callv 11 (nf G_X11_number) 2 :: tx_iax :: tx_al 2 :: tx_ic 1 :: tx_al 0 :: tx_ic 1 :: tx_ic 99 :: tx_callv 11 (nf G_X11_number) 2 :: tx_iax :: tx_al 2 :: tx_ic 2 :: tx_il 1 :: tx_ic 1 :: tx_cmp r_ne 261 :: tx_ic (-1) :: tx_fall 274 :: []
def b_X11_clause_261 : List AT := [tx_al 0, tx_ic 0, tx_al 0, tx_gr 11 3, tx_ic 2, tx_ia, tx_ic 1, tx_bin f_sub, tx_callv 11 (nf G_X11_number) 2, tx_fall 274]
def b_X11_clause_274 : List AT := [tx_iax, tx_al 2, tx_ic 3, tx_il 1, tx_ic 1, tx_cmp r_ne 286, tx_ic 0, tx_fall 293]
def b_X11_clause_286 : List AT := [tx_al 0, tx_ic 0, tx_ic 99, tx_callv 11 (nf G_X11_number) 2, tx_fall 293]
def b_X11_clause_293 : List AT := [tx_iax, tx_al 0, tx_gr 11 3, tx_ic 1, tx_dup2, tx_ia, tx_ic 1, tx_bin f_add, tx_iax, tx_fall 307]
def b_X11_clause_307 : List AT := [tx_al 0, tx_callv 11 (nf G_X11_closes) 0, tx_rv]
def R_X11_clause (J : JT) (Q : QT) : Prop := (∀ ls st M, wpl J Q b_X11_clause_0 ls st M → J 0 ls st M) ∧ (∀ ls st M, wpl J Q b_X11_clause_22 ls st M → J 22 ls st M) ∧ (∀ ls st M, wpl J Q b_X11_clause_39 ls st M → J 39 ls st M) ∧ (∀ ls st M, wpl J Q b_X11_clause_48 ls st M → J 48 ls st M) ∧ (∀ ls st M, wpl J Q b_X11_clause_56 ls st M → J 56 ls st M) ∧ (∀ ls st M, wpl J Q b_X11_clause_104 ls st M → J 104 ls st M) ∧ (∀ ls st M, wpl J Q b_X11_clause_148 ls st M → J 148 ls st M) ∧ (∀ ls st M, wpl J Q b_X11_clause_179 ls st M → J 179 ls st M) ∧ (∀ ls st M, wpl J Q b_X11_clause_197 ls st M → J 197 ls st M) ∧ (∀ ls st M, wpl J Q b_X11_clause_212 ls st M → J 212 ls st M) ∧ (∀ ls st M, wpl J Q b_X11_clause_261 ls st M → J 261 ls st M) ∧ (∀ ls st M, wpl J Q b_X11_clause_274 ls st M → J 274 ls st M) ∧ (∀ ls st M, wpl J Q b_X11_clause_286 ls st M → J 286 ls st M) ∧ (∀ ls st M, wpl J Q b_X11_clause_293 ls st M → J 293 ls st M) ∧ (∀ ls st M, wpl J Q b_X11_clause_307 ls st M → J 307 ls st M)
theorem R_X11_clause_0 {J : JT} {Q : QT} (R : R_X11_clause J Q) {ls : Ls} {st : St} {M : Mem} (h : wpl J Q b_X11_clause_0 ls st M) : J 0 ls st M := R.1 ls st M h
theorem R_X11_clause_22 {J : JT} {Q : QT} (R : R_X11_clause J Q) {ls : Ls} {st : St} {M : Mem} (h : wpl J Q b_X11_clause_22 ls st M) : J 22 ls st M := R.2.1 ls st M h
theorem R_X11_clause_39 {J : JT} {Q : QT} (R : R_X11_clause J Q) {ls : Ls} {st : St} {M : Mem} (h : wpl J Q b_X11_clause_39 ls st M) : J 39 ls st M := R.2.2.1 ls st M h
theorem R_X11_clause_48 {J : JT} {Q : QT} (R : R_X11_clause J Q) {ls : Ls} {st : St} {M : Mem} (h : wpl J Q b_X11_clause_48 ls st M) : J 48 ls st M := R.2.2.2.1 ls st M h
theorem R_X11_clause_56 {J : JT} {Q : QT} (R : R_X11_clause J Q) {ls : Ls} {st : St} {M : Mem} (h : wpl J Q b_X11_clause_56 ls st M) : J 56 ls st M := R.2.2.2.2.1 ls st M h
theorem R_X11_clause_104 {J : JT} {Q : QT} (R : R_X11_clause J Q) {ls : Ls} {st : St} {M : Mem} (h : wpl J Q b_X11_clause_104 ls st M) : J 104 ls st M := R.2.2.2.2.2.1 ls st M h
theorem R_X11_clause_148 {J : JT} {Q : QT} (R : R_X11_clause J Q) {ls : Ls} {st : St} {M : Mem} (h : wpl J Q b_X11_clause_148 ls st M) : J 148 ls st M := R.2.2.2.2.2.2.1 ls st M h
theorem R_X11_clause_179 {J : JT} {Q : QT} (R : R_X11_clause J Q) {ls : Ls} {st : St} {M : Mem} (h : wpl J Q b_X11_clause_179 ls st M) : J 179 ls st M := R.2.2.2.2.2.2.2.1 ls st M h
theorem R_X11_clause_197 {J : JT} {Q : QT} (R : R_X11_clause J Q) {ls : Ls} {st : St} {M : Mem} (h : wpl J Q b_X11_clause_197 ls st M) : J 197 ls st M := R.2.2.2.2.2.2.2.2.1 ls st M h
theorem R_X11_clause_212 {J : JT} {Q : QT} (R : R_X11_clause J Q) {ls : Ls} {st : St} {M : Mem} (h : wpl J Q b_X11_clause_212 ls st M) : J 212 ls st M := R.2.2.2.2.2.2.2.2.2.1 ls st M h
theorem R_X11_clause_261 {J : JT} {Q : QT} (R : R_X11_clause J Q) {ls : Ls} {st : St} {M : Mem} (h : wpl J Q b_X11_clause_261 ls st M) : J 261 ls st M := R.2.2.2.2.2.2.2.2.2.2.1 ls st M h
theorem R_X11_clause_274 {J : JT} {Q : QT} (R : R_X11_clause J Q) {ls : Ls} {st : St} {M : Mem} (h : wpl J Q b_X11_clause_274 ls st M) : J 274 ls st M := R.2.2.2.2.2.2.2.2.2.2.2.1 ls st M h
theorem R_X11_clause_286 {J : JT} {Q : QT} (R : R_X11_clause J Q) {ls : Ls} {st : St} {M : Mem} (h : wpl J Q b_X11_clause_286 ls st M) : J 286 ls st M := R.2.2.2.2.2.2.2.2.2.2.2.2.1 ls st M h
theorem R_X11_clause_293 {J : JT} {Q : QT} (R : R_X11_clause J Q) {ls : Ls} {st : St} {M : Mem} (h : wpl J Q b_X11_clause_293 ls st M) : J 293 ls st M := R.2.2.2.2.2.2.2.2.2.2.2.2.2.1 ls st M h
theorem R_X11_clause_307 {J : JT} {Q : QT} (R : R_X11_clause J Q) {ls : Ls} {st : St} {M : Mem} (h : wpl J Q b_X11_clause_307 ls st M) : J 307 ls st M := R.2.2.2.2.2.2.2.2.2.2.2.2.2.2 ls st M h
theorem st_fk {B : Nat → Int} {e : Nat} {s : Tp} (h : (stT B e s).2.2.1 = 0) : s.2.2.1 = 0 := by
  by_cases q : s.2.2.1 = 0
  · exact q
  · unfold stT at h
    rw [if_neg q] at h
    exact absurd h q
theorem st_no {B : Nat → Int} {e : Nat} {s : Tp} (h : ¬ s.2.2.1 = 0) : stT B e s = s := by unfold stT; rw [if_neg h]
theorem wd_len {B : Nat → Int} {t q i j : Nat} (h1 : tf (wdP B t q i) = true) (h2 : tf (wdP B t q j) = true) : (strC i).length = (strC j).length := by
  have a := (tf_iff.mp h1).1
  have b := (tf_iff.mp h2).1
  omega
theorem th_no {B : Nat → Int} {e : Nat} {Ab : Mem} {o : Int} {s : Tp} (h : ¬ s.2.2.1 = 0) : th4 B e Ab o s = s := by
  have a1 : th1 B e Ab s = s := nu_no h
  have a2 : th2 B e Ab s = s := by unfold th2; rw [a1]; exact nu_no h
  unfold th4 th3
  rw [a2]
  split
  · rfl
  · rw [nu_no h]; exact nu_no h
theorem mo_no {B : Nat → Int} {e : Nat} {Ab : Mem} {s : Tp} (h : ¬ s.2.2.1 = 0) : mo4 B e Ab s = s := by
  have a1 : mo1 B e s = s := nu_no h
  have a2 : mo2 B e Ab s = s := by unfold mo2; rw [a1]; exact nu_no h
  have a3 : mo3 B e Ab s = s := by unfold mo3; rw [a2]; exact nu_no h
  have c : moC B e Ab s = false := by unfold moC; rw [a3, decide_eq_false h]; rfl
  unfold mo4
  rw [c, a3, if_neg (by decide)]
theorem P_X11_clause {J : JT} {Q : QT} (R : R_X11_clause J Q) {as : List Vl} {M : Mem} (h : nf G_X11_clause as M Q) : (enL as).length ≤ 3 ∧ J 0 (padL 3 (enL as)) [] M := by
  unfold nf G_X11_clause at h
  split at h
  · rename_i k
    obtain ⟨B, e, p, fp, Ab, n, ⟨rfl, n60, hn⟩, ts, hr, hQ⟩ := h
    have ho := hr.1
    obtain ⟨p1, p2⟩ := nP_le ho
    obtain ⟨t1, t2⟩ := nT_le ho
    obtain ⟨d1, d2⟩ := nD_le ho
    obtain ⟨m1, m2⟩ := nM_le ho
    refine ⟨Nat.le_of_ble_eq_true rfl, R_X11_clause_0 R (an o159 ⟨B, e, p, fp, rfl, ts, fun M1 tf1 ts1 => ?_⟩)⟩
    unfold clA at hQ
    have tb := sk_bd cBl B ts.2.2.2.2.2.1
    generalize sk cBl B e p = t at ts1 hQ tb
    generalize hb : (if n < 60 then (1 : Int) else 0) = b at hQ
    have lb := sk_bd cLt B tb.2
    have r1 : RdP M1 Ab := hr.tf tf1
    have n1 : M1 159 7 = (n : Int) := (tf1 _ _ (by omega)).trans hn
    have tr1 : TRs M1 B e (t, t, 0, fp) := ⟨t, ts1, fun _ => rfl⟩
    have at4 : M1 159 4 = (t : Int) := ts1.2.1
    generalize hs0 : (sk cLt B e t, t, (0 : Int), fp) = s0 at hQ
    have s0f : s0.2.2.1 = 0 := by rw [← hs0]
    have s01 : s0.1 = sk cLt B e t := by rw [← hs0]
    have s02 : s0.2.1 = t := by rw [← hs0]
    -- a fault at the word
    have flt : ∀ (κ w : Int), ¬ w = 0 → (clT B e Ab b s0).2.2 = (w, (t : Int)) → ∀ M2 : Mem, TFr M1 M2 → TRs M2 B e (reT w (t, t, 0, fp)) → J 48 [some (vR 159), some (vI κ), none] [] M2 := by
      intro κ w hw hc M2 tf2 ts2
      have er : (reT w (t, t, 0, fp)).2.2 = (w, (t : Int)) := by
        show (rfK 0 w, rfP 0 t fp) = _
        unfold rfK rfP
        rw [if_pos rfl, if_pos rfl]
      have hf : ¬ (reT w (t, t, 0, fp)).2.2.1 = 0 := by rw [er]; exact hw
      have hcf : ¬ (clT B e Ab b s0).2.2.1 = 0 := by rw [hc]; exact hw
      have f5 : ¬ M2 159 5 = 0 := by rw [ts2.fk]; exact hf
      refine R_X11_clause_48 R (an o159 (bf f5 (hQ M2 (CFr.tf (tf1.tr tf2)) ?_ (fun z => absurd (st_fk z) hcf))))
      show TRs M2 B e (stT B e (clT B e Ab b s0))
      rw [st_no hcf]
      exact ts2.any hf (by rw [er]; exact hc)
    -- behind the clause
    have at307 : ∀ (κ : Int) (l2 : Option Vl) (M4 : Mem) (s4 : Tp), CFr M M4 → TRs M4 B e s4 → clT B e Ab b s0 = s4 → (s4.2.2.1 = 0 → RdP M4 (clM B e Ab b s0) ∧ M4 159 7 = ((n + 1 : Nat) : Int)) → J 307 [some (vR 159), some (vI κ), l2] [] M4 := by
      intro κ l2 M4 s4 cf4 ts4 hc hd
      refine R_X11_clause_307 R (an o159 ⟨B, e, s4, rfl, ts4, fun M5 tf5 ts5 => hQ M5 (cf4.tr (CFr.tf tf5)) ?_ (fun z => ?_)⟩)
      · show TRs M5 B e (stT B e (clT B e Ab b s0))
        rw [hc]; exact ts5
      · have z : (stT B e (clT B e Ab b s0)).2.2.1 = 0 := z
        rw [hc] at z
        obtain ⟨h1, h2⟩ := hd (st_fk z)
        exact ⟨h1.tf tf5, (tf5 _ _ (by omega)).trans h2⟩
    -- a word of the six
    have go : ∀ (κ : Int) (c : Bool) (T : Tp → Tp), 0 ≤ κ ∧ κ ≤ 5 → clT B e Ab b s0 = T (rmS c s0) → (∀ s, ¬ s.2.2.1 = 0 → T s = s) → (c = true ↔ ¬ (n = 60 ∨ fuC Ab κ)) →
        (c = true → ∀ M3 : Mem, CFr M M3 → TRs M3 B e s0 → RdP M3 Ab → M3 159 7 = ((n + 1 : Nat) : Int) → swc J κ [some (vR 159), some (vI κ), none] [] M3 [(0, 104), (1, 212), (2, 148), (3, 179), (4, 197)] 212) → J 22 [some (vR 159), some (vI κ), none] [] M1 := by
      intro κ c T hκ hT hTn hcc body
      have full : (n = 60 ∨ fuC Ab κ) → J 39 [some (vR 159), some (vI κ), none] [] M1 := by
        intro hf
        have cf : c = false := by
          cases q : c with
          | false => rfl
          | true => exact absurd hf (hcc.mp q)
        refine R_X11_clause_39 R (an o159 (an o159 (r_wr tr1 (fun _ => at4) (by decide) (fun M2 tf2 ts2 => flt κ 3 (by decide) ?_ M2 tf2 ts2))))
        rw [hT, cf]
        have er : (rmS false s0).2.2 = ((3 : Int), (t : Int)) := by
          unfold rmS
          rw [if_neg (by decide)]
          show (rfK s0.2.2.1 3, rfP s0.2.2.1 s0.2.1 s0.2.2.2) = _
          unfold rfK rfP
          rw [if_pos s0f, if_pos s0f, s02]
        rw [hTn _ (by rw [er]; exact (by decide : ¬ (3 : Int) = 0))]
        exact er
      have ok48 : ¬ (n = 60 ∨ fuC Ab κ) → J 48 [some (vR 159), some (vI κ), none] [] M1 := by
        intro hf
        refine R_X11_clause_48 R (an o159 (bt (show M1 159 5 = 0 from ts1.2.2.1) (R_X11_clause_56 R (an o159 ⟨B, e, t, 0, fp, rfl, ts1, fun M2 tf2 ts2 => an o159 (an o159 ?_)⟩))))
        have e7 : f_add (M2 159 7) 1 = ((n + 1 : Nat) : Int) := by rw [tf2 _ _ (by omega), n1]; exact w1 (by omega) (by omega) (by omega)
        show swc J κ _ [] (up M2 159 7 (f_add (M2 159 7) 1)) _ _
        rw [e7]
        refine body (hcc.mpr hf) _ ((CFr.tf (tf1.tr tf2)).tr (CFr.up (by omega))) ?_ ((r1.tf tf2).kept (fun u v hu => up_ne (by unfold RdC at hu; omega))) up_eq
        have tr2 : TRs M2 B e s0 := ⟨sk cLt B e t, by rw [← hs0]; exact ts2, fun _ => s01.symm⟩
        exact tr2.up (by omega)
      refine R_X11_clause_22 R (an o159 (br (fun g => full (Or.inl ?_)) (fun g => an o159 ⟨Ab, ⟨rfl, hκ.1, hκ.2⟩, r1, br (fun d => bf (by decide) (full (Or.inr d))) (fun d => bt rfl (ok48 (fun z => ?_)))⟩)))
      · have g : M1 159 7 = 60 := g
        omega
      · have g : ¬ M1 159 7 = 60 := g
        rcases z with z | z
        · omega
        · exact d z
    have bn : ¬ b = 0 ↔ n < 60 := by rw [← hb]; split <;> omega
    have rm1 : rmS true s0 = s0 := by unfold rmS; rw [if_pos rfl]
    have cT : clT B e Ab b s0 = clT B e Ab b s0 := rfl
    have cc : ∀ (x y : Int) (κ : Int), (fuC Ab κ ↔ x = y) → x ≤ y → ((!decide (b = 0) && decide (x < y)) = true ↔ ¬ (n = 60 ∨ fuC Ab κ)) := by
      intro x y κ h1 h2
      rw [Bool.and_eq_true, Bool.not_eq_true', decide_eq_false_iff_not, decide_eq_true_eq, bn, h1]
      omega
    have add1 : ∀ (M5 : Mem) (j : Nat) (x : Int), M5 162 j = x → 0 ≤ x → x ≤ 100 → f_add (M5 162 j) 1 = x + 1 := fun M5 j x h1 h2 h3 => by rw [h1]; exact w1 (by omega) (by omega) rfl
    have thg : ∀ (κ o : Int), ((κ = 1 ∧ o = 0) ∨ (κ = 5 ∧ o = 1)) → clT B e Ab b s0 = th4 B e Ab o s0 → clM B e Ab b s0 = rtM B e Ab o s0 → Ab 10 2 < 14 → ∀ M3 : Mem, CFr M M3 → TRs M3 B e s0 → RdP M3 Ab → M3 159 7 = ((n + 1 : Nat) : Int) → J 212 [some (vR 159), some (vI κ), none] [] M3 := by
      intro κ o hko eT eM lt M3 cf3 ts3 r3 e3
      have n9 : nT Ab < 14 := by omega
      have rw4 : SH (187 + nT Ab) = (1, 4, 0, 0) := sh_rt _ n9
      have at293 : ∀ (M6 : Mem) (v0 v1 v2 v3 : Int), CFr M M6 → (∀ u v, RdC u → ¬ u = 187 + nT Ab → M6 u v = M3 u v) → M6 159 7 = ((n + 1 : Nat) : Int) → M6 (187 + nT Ab) 0 = v0 → M6 (187 + nT Ab) 1 = v1 → M6 (187 + nT Ab) 2 = v2 → TRs M6 B e (th4 B e Ab o s0) → ((th4 B e Ab o s0).2.2.1 = 0 → v0 = nuV B e s0 ∧ v1 = nuV B e (th1 B e Ab s0) ∧ v2 = thD B e Ab o s0 ∧ v3 = thS B e Ab o s0) → J 293 [some (vR 159), some (vI κ), some (vR (187 + nT Ab))] [vI v3, vI 3, vR (187 + nT Ab)] M6 := by
        intro M6 v0 v1 v2 v3 cf6 fr6 e6 q0 q1 q2 ts6 hv
        refine R_X11_clause_293 R (an (ak_of rw4 (by decide) (by decide)) (an o159 (an (ak_of sh162 (by decide) (by decide)) (an (ak_of sh162 (by decide) (by decide)) ?_))))
        have c0 : M6 162 1 = Ab 10 2 := (fr6 _ _ (by unfold RdC; omega) (by omega)).trans r3.2.1.2.1
        show J 307 _ [] (up (up M6 (187 + nT Ab) 3 v3) 162 1 (f_add (up M6 (187 + nT Ab) 3 v3 162 1) 1))
        rw [up_ne (M := M6) (x := 162) (by omega), add1 M6 1 _ c0 ho.2.1.1 (by omega)]
        refine at307 κ _ _ (th4 B e Ab o s0) (cf6.tr ((CFr.up (by unfold RdC; omega)).tr (CFr.up (by unfold RdC; omega)))) ((ts6.up (by omega)).up (by omega)) eT (fun z => ⟨?_, ?_⟩)
        · obtain ⟨h0, h1, h2, h3⟩ := hv z
          have hok := rt_ok (B := B) (e := e) (o := o) (s := s0) ho
          rw [eM]
          unfold rtM at hok ⊢
          rw [if_pos ⟨z, lt⟩] at hok ⊢
          refine RdP_t r3 hok (fun u v a b' c => ?_) ?_ ?_ ?_ ?_ up_eq
          · rw [up_ne c, up_ne (by omega)]; exact fr6 u v a b'
          · rw [up_ne (by omega), up_ne (by omega), q0]; exact h0
          · rw [up_ne (by omega), up_ne (by omega), q1]; exact h1
          · rw [up_ne (by omega), up_ne (by omega), q2]; exact h2
          · rw [up_ne (by omega), up_eq]; exact h3
        · rw [up_ne (by omega), up_ne (by omega)]; exact e6
      have at274 : ∀ (M5 : Mem) (v0 v1 v2 : Int), CFr M M5 → (∀ u v, RdC u → ¬ u = 187 + nT Ab → M5 u v = M3 u v) → M5 159 7 = ((n + 1 : Nat) : Int) → M5 (187 + nT Ab) 0 = v0 → M5 (187 + nT Ab) 1 = v1 → TRs M5 B e (th3 B e Ab o s0) → ((th3 B e Ab o s0).2.2.1 = 0 → v0 = nuV B e s0 ∧ v1 = nuV B e (th1 B e Ab s0) ∧ v2 = thD B e Ab o s0) → J 274 [some (vR 159), some (vI κ), some (vR (187 + nT Ab))] [vI v2, vI 2, vR (187 + nT Ab)] M5 := by
        intro M5 v0 v1 v2 cf5 fr5 e5 q0 q1 ts5 hv
        refine R_X11_clause_274 R (an (ak_of rw4 (by decide) (by decide)) ?_)
        generalize hM6 : up M5 (187 + nT Ab) (Int.toNat 2) v2 = M6
        have f6 : ∀ u v, ¬ (u = 187 + nT Ab ∧ v = 2) → M6 u v = M5 u v := fun u v h => by rw [← hM6]; exact up_ne h
        have g2 : M6 (187 + nT Ab) 2 = v2 := by rw [← hM6]; exact up_eq
        have cf6 : CFr M M6 := by rw [← hM6]; exact cf5.tr (CFr.up (by unfold RdC; omega))
        have ts6 : TRs M6 B e (th3 B e Ab o s0) := by rw [← hM6]; exact ts5.up (by omega)
        rcases hko with ⟨rfl, rfl⟩ | ⟨rfl, rfl⟩
        · have e4 : th4 B e Ab 0 s0 = th3 B e Ab 0 s0 := by unfold th4 th3; rw [if_pos rfl, if_pos rfl]
          refine bf (by decide) (at293 M6 v0 v1 v2 0 cf6 (fun u v a b' => (f6 u v (by omega)).trans (fr5 u v a b')) ((f6 _ _ (by omega)).trans e5) ((f6 _ _ (by omega)).trans q0) ((f6 _ _ (by omega)).trans q1) g2 (by rw [e4]; exact ts6) (fun z => ?_))
          rw [e4] at z
          obtain ⟨h0, h1, h2⟩ := hv z
          exact ⟨h0, h1, h2, by unfold thS; rw [if_pos rfl]⟩
        · have e4 : th4 B e Ab 1 s0 = nuT B e 0 99 (th3 B e Ab 1 s0) := by unfold th4; rw [if_neg (by decide)]
          refine bt (by decide) (R_X11_clause_286 R (an o159 (r_num (by decide) ts6 (fun M7 v3 tf7 ts7 hr7 hz7 => at293 M7 v0 v1 v2 v3 (cf6.tr (CFr.tf tf7)) (fun u v a b' => ?_) ?_ ?_ ?_ ?_ (by rw [e4]; exact ts7) (fun z => ?_)))))
          · rw [tf7 _ _ (by unfold RdC at a; omega), f6 u v (by omega)]; exact fr5 u v a b'
          · rw [tf7 _ _ (by omega), f6 _ _ (by omega)]; exact e5
          · rw [tf7 _ _ (by omega), f6 _ _ (by omega)]; exact q0
          · rw [tf7 _ _ (by omega), f6 _ _ (by omega)]; exact q1
          · rw [tf7 _ _ (by omega)]; exact g2
          · rw [e4] at z
            obtain ⟨h0, h1, h2⟩ := hv (nu_ok z).1
            exact ⟨h0, h1, h2, by unfold thS; rw [if_neg (by decide)]; exact hr7 z⟩
      refine R_X11_clause_212 R (an o159 (an o159 (an (ak_of sh162 (by decide) (by decide)) ?_)))
      rw [show M3 (159 + 3) (Int.toNat 1) = Ab 10 2 from r3.2.1.2.1]
      refine an (ak_of sh186 (by omega) (by omega)) ?_
      rw [rt_row (i := nT Ab) rfl]
      refine an o159 (an (ak_of sh162 (by decide) (by decide)) ?_)
      rw [show M3 (159 + 3) (Int.toNat 0) = Ab 10 1 from r3.2.1.1]
      have es1 : f_sub (Ab 10 1) 1 = Ab 10 1 - 1 := sb1 ho.1.1 (by omega)
      refine an o159 (r_num (by rw [es1]; omega) ts3 (fun M4 v0 tf4 ts4 hr4 hz4 => an (ak_of rw4 (by decide) (by decide)) ?_))
      rw [es1] at ts4 hr4 hz4
      clear es1
      have ts4 : TRs M4 B e (th1 B e Ab s0) := ts4
      refine an o159 (r_num (by decide) (ts4.up (by omega)) (fun M5 v1 tf5 ts5 hr5 hz5 => an (ak_of rw4 (by decide) (by decide)) ?_))
      have ts5 : TRs M5 B e (th2 B e Ab s0) := ts5
      generalize hM6 : up M5 (187 + nT Ab) (Int.toNat 1) v1 = M6
      have fr6 : ∀ u v, RdC u → ¬ u = 187 + nT Ab → M6 u v = M3 u v := fun u v a b' => by rw [← hM6, up_ne (by omega), tf5 _ _ (by unfold RdC at a; omega), up_ne (by omega), tf4 _ _ (by unfold RdC at a; omega)]
      have e6 : M6 159 7 = ((n + 1 : Nat) : Int) := by rw [← hM6, up_ne (by omega), tf5 _ _ (by omega), up_ne (by omega), tf4 _ _ (by omega)]; exact e3
      have g0 : M6 (187 + nT Ab) 0 = v0 := by rw [← hM6, up_ne (by show ¬ (187 + nT Ab = 187 + nT Ab ∧ 0 = 1); omega), tf5 _ _ (by omega)]; exact up_eq
      have g1 : M6 (187 + nT Ab) 1 = v1 := by rw [← hM6]; exact up_eq
      have cf6 : CFr M M6 := by rw [← hM6]; exact cf3.tr ((CFr.tf tf4).tr ((CFr.up (by unfold RdC; omega)).tr ((CFr.tf tf5).tr (CFr.up (by unfold RdC; omega)))))
      have ts6 : TRs M6 B e (th2 B e Ab s0) := by rw [← hM6]; exact ts5.up (by omega)
      have hk' := hko
      rcases hko with ⟨rfl, rfl⟩ | ⟨rfl, rfl⟩
      · have e3' : th3 B e Ab 0 s0 = th2 B e Ab s0 := by unfold th3; rw [if_pos rfl]
        refine bf (by decide) (at274 M6 v0 v1 (-1) cf6 fr6 e6 g0 g1 (by rw [e3']; exact ts6) (fun z => ?_))
        rw [e3'] at z
        exact ⟨hr4 (nu_ok z).1, hr5 z, by unfold thD; rw [if_pos rfl]⟩
      · have e3' : th3 B e Ab 1 s0 = nuT B e 0 (Ab 10 3 - 1) (th2 B e Ab s0) := by unfold th3; rw [if_neg (by decide)]
        refine bt (by decide) (R_X11_clause_261 R (an o159 (an (ak_of sh162 (by decide) (by decide)) ?_)))
        rw [show M6 (159 + 3) (Int.toNat 2) = Ab 10 3 from (fr6 _ _ (by unfold RdC; omega) (by omega)).trans r3.2.1.2.2.1]
        have es2 : f_sub (Ab 10 3) 1 = Ab 10 3 - 1 := sb1 ho.2.2.1.1 (by omega)
        refine an o159 (r_num (by rw [es2]; omega) ts6 (fun M7 v2 tf7 ts7 hr7 hz7 => ?_))
        rw [es2] at ts7 hr7 hz7
        clear es2
        refine at274 M7 v0 v1 v2 (cf6.tr (CFr.tf tf7)) (fun u v a b' => ?_) ?_ ?_ ?_ (by rw [e3']; exact ts7) (fun z => ?_)
        · rw [tf7 _ _ (by unfold RdC at a; omega)]; exact fr6 u v a b'
        · rw [tf7 _ _ (by omega)]; exact e6
        · rw [tf7 _ _ (by omega)]; exact g0
        · rw [tf7 _ _ (by omega)]; exact g1
        · rw [e3'] at z
          have z2 := (nu_ok z).1
          exact ⟨hr4 (nu_ok z2).1, hr5 z2, by unfold thD; rw [if_neg (by decide)]; exact hr7 z⟩
    by_cases w0 : tf (wdP B t (sk cLt B e t) 0) = true
    · have ek : kdN B t (sk cLt B e t) = 0 := by unfold kdN; rw [if_pos w0]
      have eT : clT B e Ab b s0 = nuT B e 1 99 (nuT B e 0 3 (rmS (!decide (b = 0) && decide (Ab 10 1 < 10)) s0)) := by unfold clT; rw [s02, s01, if_pos w0]
      have eM : clM B e Ab b s0 = rpM B e Ab (rmS (!decide (b = 0) && decide (Ab 10 1 < 10)) s0) := by unfold clM; rw [s02, s01, if_pos w0]
      rw [ek]
      refine bt (by decide) (go 0 _ (fun s => nuT B e 1 99 (nuT B e 0 3 s)) (by decide) eT (fun s h => by show nuT B e 1 99 (nuT B e 0 3 s) = s; rw [nu_no h, nu_no h]) (cc _ _ 0 (by unfold fuC; omega) ho.1.2) (fun hc M3 cf3 ts3 r3 e3 => bt rfl ?_))
      have lt : Ab 10 1 < 10 := by rw [Bool.and_eq_true, decide_eq_true_eq] at hc; exact hc.2
      rw [hc, rm1] at eT eM
      have n9 : nP Ab < 10 := by omega
      have rw2 : SH (165 + nP Ab) = (1, 2, 0, 0) := sh_rp _ n9
      refine R_X11_clause_104 R (an o159 (an o159 (an (ak_of sh162 (by decide) (by decide)) ?_)))
      rw [show M3 (159 + 3) (Int.toNat 0) = Ab 10 1 from r3.2.1.1]
      refine an (ak_of sh164 (by omega) (by omega)) ?_
      rw [rp_row (i := nP Ab) rfl]
      refine an o159 (r_num (by decide) ts3 (fun M4 v0 tf4 ts4 hr4 hz4 => an (ak_of rw2 (by decide) (by decide)) (an o159 (r_num (by decide) (ts4.up (by omega)) (fun M5 v1 tf5 ts5 hr5 hz5 => an (ak_of rw2 (by decide) (by decide)) (an o159 (an (ak_of sh162 (by decide) (by decide)) (an (ak_of sh162 (by decide) (by decide)) ?_))))))))
      have c0 : M5 162 0 = Ab 10 1 := by rw [tf5 _ _ (by omega), up_ne (by omega), tf4 _ _ (by omega)]; exact r3.2.1.1
      show J 307 _ [] (up (up M5 (165 + nP Ab) 1 v1) 162 0 (f_add (up M5 (165 + nP Ab) 1 v1 162 0) 1))
      rw [up_ne (M := M5) (x := 162) (by omega), add1 M5 0 _ c0 ho.1.1 (by omega)]
      refine at307 0 _ _ (nuT B e 1 99 (nuT B e 0 3 s0)) (cf3.tr ((CFr.tf tf4).tr ((CFr.up (by unfold RdC; omega)).tr ((CFr.tf tf5).tr ((CFr.up (by unfold RdC; omega)).tr (CFr.up (by unfold RdC; omega))))))) ((ts5.up (by omega)).up (by omega)) eT (fun z => ⟨?_, ?_⟩)
      · have hok := rp_ok (B := B) (e := e) (s := s0) ho
        rw [eM]
        unfold rpM at hok ⊢
        rw [if_pos ⟨z, lt⟩] at hok ⊢
        refine RdP_p r3 hok (fun u v a b' c => ?_) ?_ ?_ up_eq
        · rw [up_ne c, up_ne (by omega), tf5 _ _ (by unfold RdC at a; omega), up_ne (by omega), tf4 _ _ (by unfold RdC at a; omega)]
        · rw [up_ne (by omega), up_ne (by omega), tf5 _ _ (by omega), show Int.toNat 0 = 0 from rfl, up_eq]; exact hr4 (nu_ok z).1
        · rw [up_ne (by omega), up_eq]; exact hr5 z
      · rw [up_ne (by omega), up_ne (by omega), tf5 _ _ (by omega), up_ne (by omega), tf4 _ _ (by omega)]; exact e3
    · by_cases w1' : tf (wdP B t (sk cLt B e t) 1) = true
      · have ek : kdN B t (sk cLt B e t) = 1 := by unfold kdN; rw [if_neg w0, if_pos w1']
        have eT : clT B e Ab b s0 = th4 B e Ab 0 (rmS (!decide (b = 0) && decide (Ab 10 2 < 14)) s0) := by unfold clT; rw [s02, s01, if_neg w0, if_pos w1']
        have eM : clM B e Ab b s0 = rtM B e Ab 0 (rmS (!decide (b = 0) && decide (Ab 10 2 < 14)) s0) := by unfold clM; rw [s02, s01, if_neg w0, if_pos w1']
        rw [ek]
        refine bt (by decide) (go 1 _ (fun s => th4 B e Ab 0 s) (by decide) eT (fun s h => th_no h) (cc _ _ 1 (by unfold fuC; omega) ho.2.1.2) (fun hc M3 cf3 ts3 r3 e3 => bf (by decide) (bt rfl ?_)))
        have lt : Ab 10 2 < 14 := by rw [Bool.and_eq_true, decide_eq_true_eq] at hc; exact hc.2
        rw [hc, rm1] at eT eM
        exact thg 1 0 (Or.inl ⟨rfl, rfl⟩) eT eM lt M3 cf3 ts3 r3 e3
      · by_cases w2 : tf (wdP B t (sk cLt B e t) 2) = true
        · have ek : kdN B t (sk cLt B e t) = 2 := by unfold kdN; rw [if_neg w0, if_neg w1', if_pos w2]
          have eT : clT B e Ab b s0 = nuT B e 1 99 (rmS (!decide (b = 0) && decide (Ab 10 3 < 3)) s0) := by unfold clT; rw [s02, s01, if_neg w0, if_neg w1', if_pos w2]
          have eM : clM B e Ab b s0 = rdM B e Ab (rmS (!decide (b = 0) && decide (Ab 10 3 < 3)) s0) := by unfold clM; rw [s02, s01, if_neg w0, if_neg w1', if_pos w2]
          rw [ek]
          refine bt (by decide) (go 2 _ (fun s => nuT B e 1 99 s) (by decide) eT (fun s h => nu_no h) (cc _ _ 2 (by unfold fuC; omega) ho.2.2.1.2) (fun hc M3 cf3 ts3 r3 e3 => bf (by decide) (bf (by decide) (bt rfl ?_))))
          have lt : Ab 10 3 < 3 := by rw [Bool.and_eq_true, decide_eq_true_eq] at hc; exact hc.2
          rw [hc, rm1] at eT eM
          have d0 := ho.2.2.1
          refine R_X11_clause_148 R (an o159 (an o159 (an (ak_of sh162 (by decide) (by decide)) ?_)))
          rw [show M3 (159 + 3) (Int.toNat 2) = Ab 10 3 from r3.2.1.2.2.1]
          refine an o159 (r_num (by decide) ts3 (fun M4 v0 tf4 ts4 hr4 hz4 => an (ak_of sh276 d0.1 (by omega)) (an o159 (an (ak_of sh162 (by decide) (by decide)) (an (ak_of sh162 (by decide) (by decide)) ?_)))))
          have c0 : M4 162 2 = Ab 10 3 := by rw [tf4 _ _ (by omega)]; exact r3.2.1.2.2.1
          show J 307 _ [] (up (up M4 276 (nD Ab) v0) 162 2 (f_add (up M4 276 (nD Ab) v0 162 2) 1))
          rw [up_ne (M := M4) (x := 162) (by omega), add1 M4 2 _ c0 d0.1 (by omega)]
          refine at307 2 _ _ (nuT B e 1 99 s0) (cf3.tr ((CFr.tf tf4).tr ((CFr.up (by unfold RdC; omega)).tr (CFr.up (by unfold RdC; omega))))) ((ts4.up (by omega)).up (by omega)) eT (fun z => ⟨?_, ?_⟩)
          · have hok := rd_ok (B := B) (e := e) (s := s0) ho
            rw [eM]
            unfold rdM at hok ⊢
            rw [if_pos ⟨z, lt⟩] at hok ⊢
            refine RdP_d r3 hok (fun u v a b' c => ?_) ?_ up_eq
            · rw [up_ne c, up_ne b', tf4 _ _ (by unfold RdC at a; omega)]
            · rw [up_ne (by omega), up_eq]; exact hr4 z
          · rw [up_ne (by omega), up_ne (by omega), tf4 _ _ (by omega)]; exact e3
        · by_cases w4 : tf (wdP B t (sk cLt B e t) 4) = true
          · have w3 : ¬ tf (wdP B t (sk cLt B e t) 3) = true := fun z => absurd (wd_len w4 z) (by decide)
            have ek : kdN B t (sk cLt B e t) = 3 := by unfold kdN; rw [if_neg w0, if_neg w1', if_neg w2, if_pos w4]
            have eT : clT B e Ab b s0 = mo4 B e Ab (rmS (!decide (b = 0) && decide (Ab 10 4 < 8)) s0) := by unfold clT; rw [s02, s01, if_neg w0, if_neg w1', if_neg w2, if_neg w3, if_pos w4]
            have eM : clM B e Ab b s0 = rmM B e Ab (rmS (!decide (b = 0) && decide (Ab 10 4 < 8)) s0) := by unfold clM; rw [s02, s01, if_neg w0, if_neg w1', if_neg w2, if_neg w3, if_pos w4]
            rw [ek]
            refine bt (by decide) (go 3 _ (fun s => mo4 B e Ab s) (by decide) eT (fun s h => mo_no h) (cc _ _ 3 (by unfold fuC; omega) ho.2.2.2.1.2) (fun hc M3 cf3 ts3 r3 e3 => bf (by decide) (bf (by decide) (bf (by decide) (bt rfl ?_)))))
            have lt : Ab 10 4 < 8 := by rw [Bool.and_eq_true, decide_eq_true_eq] at hc; exact hc.2
            rw [hc, rm1] at eT eM
            refine R_X11_clause_179 R (an o159 (an o159 (an (ak_of sh162 (by decide) (by decide)) ?_)))
            rw [show M3 (159 + 3) (Int.toNat 3) = Ab 10 4 from r3.2.1.2.2.2.1]
            refine an (ak_of sh216 (by omega) (by omega)) ?_
            rw [rm_row (i := nM Ab) rfl]
            refine an o159 ⟨B, e, s0, Ab, ⟨rfl, rfl, lt, s0f⟩, ts3, r3, fun M4 cf4 e4 ts4 hd4 => at307 3 _ M4 (mo4 B e Ab s0) (cf3.tr cf4) ts4 eT (fun z => ⟨?_, e4.trans e3⟩)⟩
            rw [eM]; exact hd4 z
          · by_cases w5 : tf (wdP B t (sk cLt B e t) 5) = true
            · have w3 : ¬ tf (wdP B t (sk cLt B e t) 3) = true := fun z => absurd (wd_len w5 z) (by decide)
              have ek : kdN B t (sk cLt B e t) = 4 := by unfold kdN; rw [if_neg w0, if_neg w1', if_neg w2, if_neg w4, if_pos w5]
              have eT : clT B e Ab b s0 = nuT B e 0 2 (rmS (!decide (b = 0)) s0) := by unfold clT; rw [s02, s01, if_neg w0, if_neg w1', if_neg w2, if_neg w3, if_neg w4, if_pos w5]
              have eM : clM B e Ab b s0 = rlM B e Ab (rmS (!decide (b = 0)) s0) := by unfold clM; rw [s02, s01, if_neg w0, if_neg w1', if_neg w2, if_neg w3, if_neg w4, if_pos w5]
              rw [ek]
              refine bt (by decide) (go 4 _ (fun s => nuT B e 0 2 s) (by decide) eT (fun s h => nu_no h) ?_ (fun hc M3 cf3 ts3 r3 e3 => bf (by decide) (bf (by decide) (bf (by decide) (bf (by decide) (bt rfl ?_))))))
              · rw [Bool.not_eq_true', decide_eq_false_iff_not, bn]
                unfold fuC
                omega
              · rw [hc, rm1] at eT eM
                refine R_X11_clause_197 R (an o159 (an o159 (r_num (by decide) ts3 (fun M4 v0 tf4 ts4 hr4 hz4 => an (ak_of sh162 (by decide) (by decide)) ?_))))
                refine at307 4 _ _ (nuT B e 0 2 s0) (cf3.tr ((CFr.tf tf4).tr (CFr.up (by unfold RdC; omega)))) (ts4.up (by omega)) eT (fun z => ⟨?_, ?_⟩)
                · have hok := rl_ok (B := B) (e := e) (s := s0) ho
                  rw [eM]
                  unfold rlM at hok ⊢
                  rw [if_pos z] at hok ⊢
                  refine RdP_l r3 hok (fun u v a c => ?_) ?_
                  · show up M4 162 4 v0 u v = M3 u v
                    rw [up_ne c, tf4 _ _ (by unfold RdC at a; omega)]
                  · rw [show Int.toNat 4 = 4 from rfl, show (159 + 3 : Nat) = 162 from rfl, up_eq]; exact hr4 z
                · rw [up_ne (by omega), tf4 _ _ (by omega)]; exact e3
            · by_cases w3 : tf (wdP B t (sk cLt B e t) 3) = true
              · have ek : kdN B t (sk cLt B e t) = 5 := by unfold kdN; rw [if_neg w0, if_neg w1', if_neg w2, if_neg w4, if_neg w5, if_pos w3]
                have eT : clT B e Ab b s0 = th4 B e Ab 1 (rmS (!decide (b = 0) && decide (Ab 10 2 < 14)) s0) := by unfold clT; rw [s02, s01, if_neg w0, if_neg w1', if_neg w2, if_pos w3]
                have eM : clM B e Ab b s0 = rtM B e Ab 1 (rmS (!decide (b = 0) && decide (Ab 10 2 < 14)) s0) := by unfold clM; rw [s02, s01, if_neg w0, if_neg w1', if_neg w2, if_pos w3]
                rw [ek]
                refine bt (by decide) (go 5 _ (fun s => th4 B e Ab 1 s) (by decide) eT (fun s h => th_no h) (cc _ _ 5 (by unfold fuC; omega) ho.2.1.2) (fun hc M3 cf3 ts3 r3 e3 => bf (by decide) (bf (by decide) (bf (by decide) (bf (by decide) (bf (by decide) ?_))))))
                have lt : Ab 10 2 < 14 := by rw [Bool.and_eq_true, decide_eq_true_eq] at hc; exact hc.2
                rw [hc, rm1] at eT eM
                exact thg 5 1 (Or.inr ⟨rfl, rfl⟩) eT eM lt M3 cf3 ts3 r3 e3
              · have ek : kdN B t (sk cLt B e t) = -1 := by unfold kdN; rw [if_neg w0, if_neg w1', if_neg w2, if_neg w4, if_neg w5, if_neg w3]
                have eT : clT B e Ab b s0 = reT 1 s0 := by unfold clT; rw [s02, s01, if_neg w0, if_neg w1', if_neg w2, if_neg w3, if_neg w4, if_neg w5]
                rw [ek]
                refine bf (by decide) (an o159 (an o159 (r_wr tr1 (fun _ => at4) (by decide) (fun M2 tf2 ts2 => flt (-1) 1 (by decide) ?_ M2 tf2 ts2))))
                rw [eT]
                show (rfK s0.2.2.1 1, rfP s0.2.2.1 s0.2.1 s0.2.2.2) = _
                unfold rfK rfP
                rw [if_pos s0f, if_pos s0f, s02]

  · exact h.elim