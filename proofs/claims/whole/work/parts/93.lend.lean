/-! a lending, by the reference -/
theorem rlo_in {B : Nat → Int} {e : Nat} {Ab : Mem} {s : Tp} : ∀ u v, ¬ (11 ≤ u ∧ u ≤ 14) → ¬ (u = 10 ∧ v = 5) → rloM B e Ab s u v = Ab u v := by
  intro u v h1 h2
  unfold rloM
  split
  · rw [up_ne h2, up_ne (by omega), up_ne (by omega), up_ne (by omega), up_ne (by omega)]
  · rfl
theorem rlo_same {B : Nat → Int} {e : Nat} {Ab : Mem} {s : Tp} : SameH (rloM B e Ab s) Ab := ⟨fun u v h => rlo_in u v (by omega) (by omega), fun v h => rlo_in 10 v (by omega) (by omega)⟩
theorem lo5_ok {B : Nat → Int} {e : Nat} {Ab : Mem} {s : Tp} (h : (lo5 B e Ab s).2.2.1 = 0) : ((lo4 B e Ab s).2.2.1 = 0 ∧ nuV B e (lo3 B e Ab s) + 1 ≤ nuV B e (lo4 B e Ab s) ∧ nuV B e (lo4 B e Ab s) ≤ 120) ∧ ((lo3 B e Ab s).2.2.1 = 0 ∧ 0 ≤ nuV B e (lo3 B e Ab s) ∧ nuV B e (lo3 B e Ab s) ≤ 119) ∧ ((lo2 B e Ab s).2.2.1 = 0 ∧ ¬ Ab 0 (nuV B e s).toNat = nuV B e (lo1 B e Ab s)) ∧ ((lo1 B e Ab s).2.2.1 = 0 ∧ 0 ≤ nuV B e (lo1 B e Ab s) ∧ nuV B e (lo1 B e Ab s) ≤ Ab 10 1 - 1) ∧ (s.2.2.1 = 0 ∧ 0 ≤ nuV B e s ∧ nuV B e s ≤ Ab 10 2 - 1) := by
  have h5 := nu_ok h
  have h4 := nu_ok h5.1
  have h3 := lo3_ok h4.1
  have h2 := nu_ok h3.1
  have h1 := nu_ok h2.1
  exact ⟨h5, h4, h3, h2, h1⟩
theorem rlo_ok {B : Nat → Int} {e : Nat} {Ab : Mem} {s : Tp} (hl : LoanOK Ab 11 (Ab 10 5)) : LoanOK (rloM B e Ab s) 11 (rloM B e Ab s 10 5) := by
  obtain ⟨l1, l2⟩ := nL_le hl
  by_cases z : (lo5 B e Ab s).2.2.1 = 0 ∧ Ab 10 5 < 20
  · obtain ⟨h5, h4, h3, h2, h1⟩ := lo5_ok z.1
    have hb := hl.1
    unfold rloM
    rw [if_pos z]
    generalize nuV B e s = v0 at h3 h1
    generalize nuV B e (lo1 B e Ab s) = v1 at h3 h2
    generalize nuV B e (lo3 B e Ab s) = v2 at h5 h4
    generalize nuV B e (lo4 B e Ab s) = v3 at h5
    generalize hA : up (up (up (up (up Ab 11 (nL Ab) v0) 12 (nL Ab) v1) 13 (nL Ab) v2) 14 (nL Ab) v3) 10 5 (Ab 10 5 + 1) = A
    have f : ∀ u v, ¬ (11 ≤ u ∧ u ≤ 14 ∧ v = nL Ab) → ¬ (u = 10 ∧ v = 5) → A u v = Ab u v := fun u v h1 h3 => by rw [← hA, up_ne h3, up_ne (by omega), up_ne (by omega), up_ne (by omega), up_ne (by omega)]
    have c5 : A 10 5 = Ab 10 5 + 1 := by rw [← hA]; exact up_eq
    refine ⟨by rw [c5]; omega, fun i hi => ?_⟩
    rw [c5] at hi
    rw [f 10 2 (by omega) (by omega), f 10 1 (by omega) (by omega)]
    by_cases q : i = nL Ab
    · subst q
      have e0 : A 11 (nL Ab) = v0 := by rw [← hA, up_ne (by omega), up_ne (by omega), up_ne (by omega), up_ne (by omega), up_eq]
      have e1 : A (11 + 1) (nL Ab) = v1 := by rw [← hA, up_ne (by omega), up_ne (by omega), up_ne (by omega)]; exact up_eq
      have e2 : A (11 + 2) (nL Ab) = v2 := by rw [← hA, up_ne (by omega), up_ne (by omega)]; exact up_eq
      have e3 : A (11 + 3) (nL Ab) = v3 := by rw [← hA, up_ne (by omega)]; exact up_eq
      rw [e0, e1, e2, e3, f 0 _ (by omega) (by omega)]
      have := h3.2
      omega
    · have o := hl.2 i (by unfold nL at q l2; omega)
      rw [f 11 i (by omega) (by omega), f (11 + 1) i (by omega) (by omega), f (11 + 2) i (by omega) (by omega), f (11 + 3) i (by omega) (by omega), f 0 _ (by omega) (by omega)]
      exact o
  · have : rloM B e Ab s = Ab := by unfold rloM; rw [if_neg z]
    rw [this]; exact hl
theorem ll_ok {B : Nat → Int} {e : Nat} : ∀ {n : Nat} {x : Mem × Tp}, LoanOK x.1 11 (x.1 10 5) → LoanOK (llS B e n x).1 11 ((llS B e n x).1 10 5)
  | 0, x, h => h
  | n + 1, x, h => by
    rw [llS]
    split
    · exact ll_ok (rlo_ok h)
    · exact h
theorem ll_in {B : Nat → Int} {e : Nat} : ∀ {n : Nat} {x : Mem × Tp} (u v : Nat), ¬ (11 ≤ u ∧ u ≤ 14) → ¬ (u = 10 ∧ v = 5) → (llS B e n x).1 u v = x.1 u v
  | 0, x, u, v, h1, h2 => rfl
  | n + 1, x, u, v, h1, h2 => by
    rw [llS]
    split
    · rw [ll_in u v h1 h2]
      exact rlo_in u v h1 h2
    · rfl
def RdL (M Ab : Mem) : Prop := LoanOK Ab 11 (Ab 10 5) ∧ M 159 38 = Ab 10 5 ∧ ∀ i, i < nL Ab → M (235 + i) 0 = Ab 11 i ∧ M (235 + i) 1 = Ab 12 i ∧ M (235 + i) 2 = Ab 13 i ∧ M (235 + i) 3 = Ab 14 i
theorem RdL.kept {M M' Ab : Mem} (h : RdL M Ab) (e0 : M' 159 38 = M 159 38) (e : ∀ u v, 235 ≤ u → u < 255 → M' u v = M u v) : RdL M' Ab := by
  obtain ⟨h1, h2, h3⟩ := h
  have l1 := (nL_le h1).1
  refine ⟨h1, by rw [e0]; exact h2, fun i hi => ?_⟩
  rw [e _ _ (by omega) (by omega), e _ _ (by omega) (by omega), e _ _ (by omega) (by omega), e _ _ (by omega) (by omega)]
  exact h3 i hi
theorem RdL.tf {M M' Ab : Mem} (h : RdL M Ab) (tf : TFr M M') : RdL M' Ab := h.kept (tf _ _ (by omega)) (fun u v a b => tf u v (by omega))
theorem RdL_push {M M' Ab : Mem} {v0 v1 v2 v3 : Int} (h : RdL M Ab) (hA : LoanOK (up (up (up (up (up Ab 11 (nL Ab) v0) 12 (nL Ab) v1) 13 (nL Ab) v2) 14 (nL Ab) v3) 10 5 (Ab 10 5 + 1)) 11 (up (up (up (up (up Ab 11 (nL Ab) v0) 12 (nL Ab) v1) 13 (nL Ab) v2) 14 (nL Ab) v3) 10 5 (Ab 10 5 + 1) 10 5))
    (f : ∀ u v, 235 ≤ u → u < 255 → ¬ u = 235 + nL Ab → M' u v = M u v) (e0 : M' (235 + nL Ab) 0 = v0) (e1 : M' (235 + nL Ab) 1 = v1) (e2 : M' (235 + nL Ab) 2 = v2) (e3 : M' (235 + nL Ab) 3 = v3) (e4 : M' 159 38 = Ab 10 5 + 1) : RdL M' (up (up (up (up (up Ab 11 (nL Ab) v0) 12 (nL Ab) v1) 13 (nL Ab) v2) 14 (nL Ab) v3) 10 5 (Ab 10 5 + 1)) := by
  obtain ⟨h1, h2, h3⟩ := h
  obtain ⟨l1, l2⟩ := nL_le h1
  generalize hAA : up (up (up (up (up Ab 11 (nL Ab) v0) 12 (nL Ab) v1) 13 (nL Ab) v2) 14 (nL Ab) v3) 10 5 (Ab 10 5 + 1) = A at hA
  have g : ∀ u v, ¬ (11 ≤ u ∧ u ≤ 14 ∧ v = nL Ab) → ¬ (u = 10 ∧ v = 5) → A u v = Ab u v := fun u v h1 h3 => by rw [← hAA, up_ne h3, up_ne (by omega), up_ne (by omega), up_ne (by omega), up_ne (by omega)]
  have c5 : A 10 5 = Ab 10 5 + 1 := by rw [← hAA]; exact up_eq
  have nl : nL A = nL Ab + 1 := by unfold nL; rw [c5]; have := h1.1; omega
  refine ⟨hA, by rw [c5]; exact e4, fun i hi => ?_⟩
  rw [nl] at hi
  by_cases q : i = nL Ab
  · subst q
    rw [e0, e1, e2, e3, ← hAA]
    refine ⟨?_, ?_, ?_, ?_⟩
    · rw [up_ne (by omega), up_ne (by omega), up_ne (by omega), up_ne (by omega), up_eq]
    · rw [up_ne (by omega), up_ne (by omega), up_ne (by omega), up_eq]
    · rw [up_ne (by omega), up_ne (by omega), up_eq]
    · rw [up_ne (by omega), up_eq]
  · have : nL A ≤ 20 := (nL_le hA).1
    rw [f _ _ (by omega) (by omega) (by omega), f _ _ (by omega) (by omega) (by omega), f _ _ (by omega) (by omega) (by omega), f _ _ (by omega) (by omega) (by omega), g _ _ (by omega) (by omega), g _ _ (by omega) (by omega), g _ _ (by omega) (by omega), g _ _ (by omega) (by omega)]
    exact h3 i (by omega)
def LFr (M M' : Mem) : Prop := ∀ u v, ¬ (u = 159 ∧ ((4 ≤ v ∧ v ≤ 6) ∨ v = 38)) → ¬ (235 ≤ u ∧ u < 255) → M' u v = M u v
theorem LFr.tf {M M' : Mem} (h : TFr M M') : LFr M M' := fun u v a _ => h u v (by omega)
theorem LFr.tr {M M1 M2 : Mem} (h : LFr M M1) (h2 : LFr M1 M2) : LFr M M2 := fun u v a b => (h2 u v a b).trans (h u v a b)
theorem LFr.up {M : Mem} {a b : Nat} {x : Int} (h : (235 ≤ a ∧ a < 255) ∨ (a = 159 ∧ b = 38)) : LFr M (up M a b x) := fun u v q1 q2 => up_ne (by omega)
noncomputable def leS (B : Nat → Int) (e : Nat) (Ab : Mem) (p : Nat) (fp : Int) : Tp := loW B e (20 - nL Ab) (sk cLt B e (sk cBl B e p), sk cBl B e p, 0, fp)
noncomputable def leA (B : Nat → Int) (e : Nat) (Ab : Mem) (p : Nat) (fp : Int) : Mem × Tp := (rloM B e Ab (leS B e Ab p fp), stT B e (lo5 B e Ab (leS B e Ab p fp)))
def G_X11_lending : FN := fun as M Q => match as with
  | [.inr (.inl k)] => ∃ B e p fp Ab, k = 159 ∧ TRx M B e p 0 fp ∧ MdP M Ab ∧ RdL M Ab ∧ ∀ M' : Mem, LFr M M' → TRs M' B e (leA B e Ab p fp).2 → ((leA B e Ab p fp).2.2.2.1 = 0 → RdL M' (leA B e Ab p fp).1) → Q none M'
  | _ => False
def b_X11_lending_0 : List AT := [tx_al 0, tx_ic 12, tx_ic 5, tx_ic 14, tx_ic 4, tx_ic 0, tx_ic 0, tx_call (nf G_X11_six) 6, tx_callv 11 (nf G_X11_isWord) 1, tx_ifz r_ne 30, tx_al 0, tx_ic 1, tx_al 0, tx_gi 11 4, tx_callv 11 (nf G_X11_wrong) 2, tx_fall 48]
def b_X11_lending_30 : List AT := [tx_al 0, tx_gi 11 38, tx_ic 20, tx_cmp r_ne 48, tx_al 0, tx_ic 3, tx_al 0, tx_gi 11 4, tx_callv 11 (nf G_X11_wrong) 2, tx_fall 48]
def b_X11_lending_48 : List AT := [tx_al 0, tx_gi 11 5, tx_ifz r_eq 56, tx_rv]
def b_X11_lending_56 : List AT := tx_al 0 :: tx_callv 11 (nf G_X11_skipWord) 0 :: tx_al 0 :: tx_gr 11 75 :: tx_al 0 :: tx_gi 11 38 :: tx_aa 5 :: tx_as 1 :: tx_al 1 :: tx_ic 0 :: tx_al 0 :: tx_ic 0 :: tx_al 0 :: tx_gr 11 4 :: tx_ic 1 :: tx_ia :: tx_ic 1 :: tx_bin f_sub :: tx_callv 11 (nf G_X11_number) 2 :: tx_iax :: tx_al 0 :: tx_callv 11 (nf G_X11_blanks) 0 :: tx_al 0 :: tx_gi 11 4 :: tx_is 2 :: tx_al 1 :: tx_ic 1 :: tx_al 0 :: tx_ic 0 :: tx_al 0 :: tx_gr 11 4 :: tx_ic 0 :: tx_ia :: tx_ic 1 :: tx_bin f_sub :: tx_callv 11 (nf G_X11_number) 2 :: tx_iax :: tx_al 0 :: tx_gi 11 5 :: tx_ifz r_ne 140 :: tx_al 1 :: tx_ic 1 :: tx_ia :: tx_al 0 :: tx_gr 11 42 :: tx_al 1 :: tx_ic 0 :: tx_ia :: tx_aa 5 :: tx_ic 0 :: tx_ia :: tx_cmp r_ne 140 :: tx_al 0 :: tx_ic 2 :: tx_il 2 :: tx_callv 11 (nf G_X11_wrong) 2 :: tx_fall 140 :: []
def b_X11_lending_140 : List AT := tx_al 1 :: tx_ic 2 :: tx_al 0 :: tx_ic 0 :: tx_ic 119 :: tx_callv 11 (nf G_X11_number) 2 :: tx_iax :: tx_al 1 :: tx_ic 3 :: tx_al 0 :: tx_al 1 :: tx_ic 2 :: tx_ia :: tx_ic 1 :: tx_bin f_add :: tx_ic 120 :: tx_callv 11 (nf G_X11_number) 2 :: tx_iax :: tx_al 0 :: tx_dup :: tx_gi 11 38 :: tx_ic 1 :: tx_bin f_add :: tx_pi 11 38 :: tx_al 0 :: tx_callv 11 (nf G_X11_closes) 0 :: tx_rv :: []
def R_X11_lending (J : JT) (Q : QT) : Prop := (∀ ls st M, wpl J Q b_X11_lending_0 ls st M → J 0 ls st M) ∧ (∀ ls st M, wpl J Q b_X11_lending_30 ls st M → J 30 ls st M) ∧ (∀ ls st M, wpl J Q b_X11_lending_48 ls st M → J 48 ls st M) ∧ (∀ ls st M, wpl J Q b_X11_lending_56 ls st M → J 56 ls st M) ∧ (∀ ls st M, wpl J Q b_X11_lending_140 ls st M → J 140 ls st M)
theorem R_X11_lending_0 {J : JT} {Q : QT} (R : R_X11_lending J Q) {ls : Ls} {st : St} {M : Mem} (h : wpl J Q b_X11_lending_0 ls st M) : J 0 ls st M := R.1 ls st M h
theorem R_X11_lending_30 {J : JT} {Q : QT} (R : R_X11_lending J Q) {ls : Ls} {st : St} {M : Mem} (h : wpl J Q b_X11_lending_30 ls st M) : J 30 ls st M := R.2.1 ls st M h
theorem R_X11_lending_48 {J : JT} {Q : QT} (R : R_X11_lending J Q) {ls : Ls} {st : St} {M : Mem} (h : wpl J Q b_X11_lending_48 ls st M) : J 48 ls st M := R.2.2.1 ls st M h
theorem R_X11_lending_56 {J : JT} {Q : QT} (R : R_X11_lending J Q) {ls : Ls} {st : St} {M : Mem} (h : wpl J Q b_X11_lending_56 ls st M) : J 56 ls st M := R.2.2.2.1 ls st M h
theorem R_X11_lending_140 {J : JT} {Q : QT} (R : R_X11_lending J Q) {ls : Ls} {st : St} {M : Mem} (h : wpl J Q b_X11_lending_140 ls st M) : J 140 ls st M := R.2.2.2.2 ls st M h
theorem sh234 : SH 234 = (5, 20, 235, 1) := rfl
theorem sh_rl : ∀ i, i < 20 → SH (235 + i) = (1, 4, 0, 0) := by decide
theorem rl_row {x : Int} {i : Nat} (h : x.toNat = i) : (SH (159 + 75)).2.2.1 + (SH (159 + 75)).2.2.2 * x.toNat = 235 + i := by
  rw [h]
  show 235 + 1 * i = 235 + i
  omega
theorem lo_no {B : Nat → Int} {e : Nat} {Ab : Mem} {s : Tp} (h : ¬ s.2.2.1 = 0) : lo5 B e Ab s = s := by
  have a1 : lo1 B e Ab s = s := nu_no h
  have a2 : lo2 B e Ab s = s := by unfold lo2; rw [a1]; exact nu_no h
  have c : loC B e Ab s = false := by unfold loC; rw [a2, decide_eq_false h]; rfl
  have a3 : lo3 B e Ab s = s := by unfold lo3; rw [c, a2, if_neg (by decide)]
  have a4 : lo4 B e Ab s = s := by unfold lo4; rw [a3]; exact nu_no h
  unfold lo5
  rw [a4]
  exact nu_no h
theorem P_X11_lending {J : JT} {Q : QT} (R : R_X11_lending J Q) {as : List Vl} {M : Mem} (h : nf G_X11_lending as M Q) : (enL as).length ≤ 3 ∧ J 0 (padL 3 (enL as)) [] M := by
  unfold nf G_X11_lending at h
  split at h
  · rename_i k
    obtain ⟨B, e, p, fp, Ab, rfl, ts, hmd, hrl, hQ⟩ := h
    have ho := hmd.1
    have hl := hrl.1
    obtain ⟨l1, l2⟩ := nL_le hl
    obtain ⟨p1, p2⟩ := nP_le ho
    obtain ⟨t1, t2⟩ := nT_le ho
    have tb := sk_bd cBl B ts.2.2.2.2.2.1
    unfold leA leS at hQ
    -- a fault at the word
    have flt : ∀ (w : Int) (s1 : Tp), ¬ w = 0 → loW B e (20 - nL Ab) (sk cLt B e (sk cBl B e p), sk cBl B e p, 0, fp) = s1 → s1.2.2 = (w, ((sk cBl B e p : Nat) : Int)) → ∀ M2 : Mem, TFr M M2 → TRs M2 B e (reT w (sk cBl B e p, sk cBl B e p, 0, fp)) → J 48 [some (vR 159), none, none] [] M2 := by
      intro w s1 hw hs hs2 M2 tf2 ts2
      rw [hs] at hQ
      have er : (reT w (sk cBl B e p, sk cBl B e p, 0, fp)).2.2 = (w, ((sk cBl B e p : Nat) : Int)) := by
        show (rfK 0 w, rfP 0 _ fp) = _
        unfold rfK rfP
        rw [if_pos rfl, if_pos rfl]
      have hf : ¬ (reT w (sk cBl B e p, sk cBl B e p, 0, fp)).2.2.1 = 0 := by rw [er]; exact hw
      have hcf : ¬ s1.2.2.1 = 0 := by rw [hs2]; exact hw
      have f5 : ¬ M2 159 5 = 0 := by rw [ts2.fk]; exact hf
      rw [lo_no hcf, st_no hcf] at hQ
      exact R_X11_lending_48 R (an o159 (bf f5 (hQ M2 (LFr.tf tf2) (ts2.any hf (by rw [er]; exact hs2)) (fun z => absurd z hcf))))
    refine ⟨Nat.le_of_ble_eq_true rfl, R_X11_lending_0 R ⟨by decide, an o159 (r_wd (i := 6) (by decide) c6w ts (fun w6' M1 tf1 ts1 => bt (by decide) (R_X11_lending_30 R (an o159 ?_))) (fun w6' M1 tf1 ts1 => bf (by decide) (an o159 (an o159 ?_))))⟩⟩
    · generalize ht : sk cBl B e p = t at ts1 hQ tb flt w6'
      have tr1 : TRs M1 B e (t, t, 0, fp) := ⟨t, ts1, fun _ => rfl⟩
      have e38 : M1 159 38 = Ab 10 5 := (tf1 _ _ (by omega)).trans hrl.2.1
      have lb := sk_bd cLt B tb.2
      refine br (fun g => ?_) (fun g => an o159 (an o159 (r_wr tr1 (fun _ => ts1.2.1) (by decide) (fun M2 tf2 ts2 => flt 3 (reT 3 (sk cLt B e t, t, 0, fp)) (by decide) ?_ ?_ M2 (tf1.tr tf2) ts2))))
      · have g : ¬ M1 159 38 = 20 := g
        have l20 : nL Ab < 20 := by omega
        have lt5 : Ab 10 5 < 20 := by omega
        have es : loW B e (20 - nL Ab) (sk cLt B e t, t, 0, fp) = (sk cLt B e t, t, 0, fp) := by
          unfold loW
          rw [if_neg (fun z => z w6'), if_neg (by omega)]
        rw [es] at hQ
        clear flt es
        have rw4 : SH (235 + nL Ab) = (1, 4, 0, 0) := sh_rl _ l20
        refine R_X11_lending_48 R (an o159 (bt (show M1 159 5 = 0 from ts1.2.2.1) (R_X11_lending_56 R (an o159 ⟨B, e, t, 0, fp, rfl, ts1, fun M2 tf2 ts2 => ?_⟩))))
        generalize hs0 : ((sk cLt B e t, t, (0 : Int), fp) : Tp) = s0 at hQ
        have s0f : s0.2.2.1 = 0 := by rw [← hs0]
        have tr2 : TRs M2 B e s0 := ⟨sk cLt B e t, by rw [← hs0]; exact ts2, fun _ => by rw [← hs0]⟩
        have tf12 := tf1.tr tf2
        have md2 : MdP M2 Ab := hmd.kept (fun u v a b => tf12 u v (by omega))
        have e38' : M2 159 38 = Ab 10 5 := (tf2 _ _ (by omega)).trans e38
        -- the end
        have fin : ∀ (M5 : Mem) (x2 : Option Vl) (v0 v1 : Int), LFr M M5 → (∀ u v, 235 ≤ u → u < 255 → ¬ u = 235 + nL Ab → M5 u v = M u v) → M5 159 38 = Ab 10 5 → M5 (235 + nL Ab) 0 = v0 → M5 (235 + nL Ab) 1 = v1 → TRs M5 B e (lo3 B e Ab s0) → ((lo3 B e Ab s0).2.2.1 = 0 → v0 = nuV B e s0 ∧ v1 = nuV B e (lo1 B e Ab s0)) → J 140 [some (vR 159), some (vR (235 + nL Ab)), x2] [] M5 := by
          intro M5 x2 v0 v1 lf5 fr5 e5 q0 q1 ts5 hv
          refine R_X11_lending_140 R (an o159 (r_num (by decide) ts5 (fun M6 v2 tf6 ts6 hr6 hz6 => an (ak_of rw4 (by decide) (by decide)) (an (ak_of rw4 (by decide) (by decide)) ?_))))
          have ts6 : TRs M6 B e (lo4 B e Ab s0) := ts6
          rw [show (Int.toNat 2) = 2 from rfl]
          generalize hM7 : up M6 (235 + nL Ab) 2 v2 = M7
          have f7 : ∀ u v, ¬ (u = 235 + nL Ab ∧ v = 2) → M7 u v = M6 u v := fun u v h => by rw [← hM7]; exact up_ne h
          have g2 : M7 (235 + nL Ab) 2 = v2 := by rw [← hM7]; exact up_eq
          have ts7 : TRs M7 B e (lo4 B e Ab s0) := by rw [← hM7]; exact ts6.up (by omega)
          rw [g2]
          have e5 : nuT B e (f_add v2 1) 120 (lo4 B e Ab s0) = lo5 B e Ab s0 := by
            unfold lo5
            by_cases z : (lo4 B e Ab s0).2.2.1 = 0
            · have := (nu_ok z).2
              rw [hr6 z, show f_add (nuV B e (lo3 B e Ab s0)) 1 = nuV B e (lo3 B e Ab s0) + 1 from w1 (by omega) (by omega) rfl]
            · exact nu_any z
          refine an o159 (r_num (by decide) ts7 (fun M8 v3 tf8 ts8 hr8 hz8 => an (ak_of rw4 (by decide) (by decide)) (an o159 (an o159 ?_))))
          rw [e5] at ts8 hr8
          clear e5
          rw [show (Int.toNat 3) = 3 from rfl]
          have c38 : up M8 (235 + nL Ab) 3 v3 159 38 = Ab 10 5 := by rw [up_ne (by omega), tf8 _ _ (by omega), f7 _ _ (by omega), tf6 _ _ (by omega)]; assumption
          have ei : f_add (up M8 (235 + nL Ab) 3 v3 159 38) 1 = Ab 10 5 + 1 := by rw [c38]; have := hl.1; exact w1 (by omega) (by omega) rfl
          rw [ei]
          clear ei
          generalize hM9 : up (up M8 (235 + nL Ab) 3 v3) 159 38 (Ab 10 5 + 1) = M9
          have f9 : ∀ u v, ¬ (u = 235 + nL Ab ∧ v = 3) → ¬ (u = 159 ∧ v = 38) → M9 u v = M8 u v := fun u v h1 h2 => by rw [← hM9, up_ne h2, up_ne h1]
          have g3 : M9 (235 + nL Ab) 3 = v3 := by rw [← hM9, up_ne (by omega)]; exact up_eq
          have g38 : M9 159 38 = Ab 10 5 + 1 := by rw [← hM9]; exact up_eq
          have ts9 : TRs M9 B e (lo5 B e Ab s0) := by rw [← hM9]; exact (ts8.up (by omega)).up (by omega)
          have lf9 : LFr M M9 := by
            rw [← hM9]
            refine lf5.tr ((LFr.tf tf6).tr (LFr.tr (M1 := M7) ?_ ((LFr.tf tf8).tr ((LFr.up (by omega)).tr (LFr.up (by omega))))))
            rw [← hM7]; exact LFr.up (by omega)
          refine an o159 ⟨B, e, lo5 B e Ab s0, rfl, ts9, fun M10 tf10 ts10 => hQ M10 (lf9.tr (LFr.tf tf10)) ts10 (fun z => ?_)⟩
          have z := st_fk z
          obtain ⟨h5, h4, h3, h2, h1⟩ := lo5_ok z
          obtain ⟨w0, w1'⟩ := hv h4.1
          have hok := rlo_ok (B := B) (e := e) (s := s0) hl
          show RdL M10 (rloM B e Ab s0)
          unfold rloM at hok ⊢
          rw [if_pos ⟨z, lt5⟩] at hok ⊢
          refine RdL_push hrl hok (fun u v a b c => ?_) ?_ ?_ ?_ ?_ ?_
          · rw [tf10 _ _ (by omega), f9 _ _ (by omega) (by omega), tf8 _ _ (by omega), f7 _ _ (by omega), tf6 _ _ (by omega)]; exact fr5 u v a b c
          · rw [tf10 _ _ (by omega), f9 _ _ (by omega) (by omega), tf8 _ _ (by omega), f7 _ _ (by omega), tf6 _ _ (by omega), q0]; exact w0
          · rw [tf10 _ _ (by omega), f9 _ _ (by omega) (by omega), tf8 _ _ (by omega), f7 _ _ (by omega), tf6 _ _ (by omega), q1]; exact w1'
          · rw [tf10 _ _ (by omega), f9 _ _ (by omega) (by omega), tf8 _ _ (by omega), g2]; exact hr6 h5.1
          · rw [tf10 _ _ (by omega), g3]; exact hr8 z
          · rw [tf10 _ _ (by omega)]; exact g38
        refine an o159 (an o159 ?_)
        show AK 5 234 (M2 159 38) ∧ _
        rw [e38']
        refine an (ak_of sh234 (by have := hl.1; omega) (by omega)) ?_
        rw [rl_row (i := nL Ab) rfl]
        refine an o159 (an (ak_of sh163 (by decide) (by decide)) ?_)
        rw [show M2 (159 + 4) (Int.toNat 1) = Ab 10 2 from md2.2.1.2.1]
        have es1 : f_sub (Ab 10 2) 1 = Ab 10 2 - 1 := sb1 ho.2.1.1 (by omega)
        refine an o159 (r_num (by rw [es1]; omega) tr2 (fun M3 v0 tf3 ts3 hr3 hz3 => an (ak_of rw4 (by decide) (by decide)) ?_))
        rw [es1] at ts3 hr3 hz3
        clear es1
        have ts3 : TRs M3 B e (lo1 B e Ab s0) := ts3
        rw [show (Int.toNat 0) = 0 from rfl]
        generalize hM4 : up M3 (235 + nL Ab) 0 v0 = M4
        have f4 : ∀ u v, ¬ (u = 235 + nL Ab ∧ v = 0) → M4 u v = M3 u v := fun u v h => by rw [← hM4]; exact up_ne h
        have g0 : M4 (235 + nL Ab) 0 = v0 := by rw [← hM4]; exact up_eq
        have ts4 : TRs M4 B e (lo1 B e Ab s0) := by rw [← hM4]; exact ts3.up (by omega)
        have tf123 := tf12.tr tf3
        refine an o159 (r_bl ts4 (fun M5 tf5 ts5 => an o159 (an o159 (an (ak_of sh163 (by decide) (by decide)) ?_))))
        rw [show M5 (159 + 4) (Int.toNat 0) = Ab 10 1 by rw [show (159 + 4 : Nat) = 163 from rfl, show (Int.toNat 0) = 0 from rfl, tf5 _ _ (by omega), f4 _ _ (by omega), tf123 _ _ (by omega)]; exact hmd.2.1.1]
        have es2 : f_sub (Ab 10 1) 1 = Ab 10 1 - 1 := sb1 ho.1.1 (by omega)
        refine an o159 (r_num (by rw [es2]; omega) ts5 (fun M6 v1 tf6 ts6 hr6 hz6 => an (ak_of rw4 (by decide) (by decide)) ?_))
        rw [es2] at ts6 hr6 hz6
        clear es2
        have here : (lo1 B e Ab s0).2.2.1 = 0 → M5 159 4 = ((sk cBl B e (lo1 B e Ab s0).1 : Nat) : Int) := fun z => ts5.at z
        have pe : (lo1 B e Ab s0).2.2.1 = 0 → (lo1 B e Ab s0).1 ≤ e := fun z => by
          obtain ⟨p, tx, hp⟩ := ts4
          rw [← hp z]; exact tx.2.2.2.2.2.1
        have ts6' : TRs M6 B e (lo2 B e Ab s0) := by
          by_cases z : (lo1 B e Ab s0).2.2.1 = 0
          · rw [(sk_nu z (pe z)).1] at ts6; exact ts6
          · rw [nu_no (s := (sk cBl B e (lo1 B e Ab s0).1, (lo1 B e Ab s0).2)) z] at ts6
            unfold lo2
            rw [nu_no z]
            exact ts6.any z rfl
        have ok2 : (lo2 B e Ab s0).2.2.1 = 0 → (lo1 B e Ab s0).2.2.1 = 0 := fun z => (nu_ok z).1
        have rr1 : (lo2 B e Ab s0).2.2.1 = 0 → v1 = nuV B e (lo1 B e Ab s0) := fun z => by
          have z2 := ok2 z
          have := hr6 (by rw [(sk_nu z2 (pe z2)).1]; exact z)
          rw [(sk_nu (lo := 0) (hi := 0) z2 (pe z2)).2] at this
          exact this
        have rr0 : (lo2 B e Ab s0).2.2.1 = 0 → v0 = nuV B e s0 := fun z => hr3 (ok2 z)
        have h2t : (lo2 B e Ab s0).2.2.1 = 0 → (lo2 B e Ab s0).2.1 = sk cBl B e (lo1 B e Ab s0).1 := fun z => by
          unfold lo2 nuT
          rw [if_pos (ok2 z)]
        clear ts6 hr6 hz6
        rw [show (Int.toNat 1) = 1 from rfl]
        generalize hM7 : up M6 (235 + nL Ab) 1 v1 = M7
        have f7 : ∀ u v, ¬ (u = 235 + nL Ab ∧ v = 1) → M7 u v = M6 u v := fun u v h => by rw [← hM7]; exact up_ne h
        have g1 : M7 (235 + nL Ab) 1 = v1 := by rw [← hM7]; exact up_eq
        have ts7 : TRs M7 B e (lo2 B e Ab s0) := by rw [← hM7]; exact ts6'.up (by omega)
        have tf56 := tf5.tr tf6
        have g07 : M7 (235 + nL Ab) 0 = v0 := by rw [f7 _ _ (by omega), tf56 _ _ (by omega)]; exact g0
        have fr7 : ∀ u v, 235 ≤ u → u < 255 → ¬ u = 235 + nL Ab → M7 u v = M u v := fun u v a b c => by rw [f7 _ _ (by omega), tf56 _ _ (by omega), f4 _ _ (by omega), tf123 _ _ (by omega)]
        have o38 : M7 159 38 = Ab 10 5 := by rw [f7 _ _ (by omega), tf56 _ _ (by omega), f4 _ _ (by omega), tf3 _ _ (by omega)]; exact e38'
        have lf7 : LFr M M7 := by
          rw [← hM7]
          refine (LFr.tf tf123).tr (LFr.tr (M1 := M4) ?_ ((LFr.tf tf56).tr (LFr.up (by omega))))
          rw [← hM4]; exact LFr.up (by omega)
        have lo3e : ∀ c : Bool, loC B e Ab s0 = c → lo3 B e Ab s0 = if c = true then reT 2 (lo2 B e Ab s0) else lo2 B e Ab s0 := fun c hc => by unfold lo3; rw [hc]
        have noC : ¬ (lo2 B e Ab s0).2.2.1 = 0 → loC B e Ab s0 = false := fun z => by unfold loC; rw [decide_eq_false z]; rfl
        refine an o159 (br (fun g5 => ?_) (fun g5 => ?_))
        · have g5 : ¬ M7 159 5 = 0 := g5
          rw [ts7.fk] at g5
          refine fin M7 _ v0 v1 lf7 fr7 o38 g07 g1 ?_ (fun z => ?_)
          · rw [lo3e false (noC g5), if_neg (by decide)]; exact ts7
          · exact absurd (lo3_ok z).1 g5
        · have g5 : M7 159 5 = 0 := Classical.not_not.mp g5
          rw [ts7.fk] at g5
          have n2 := nu_ok g5
          have n1 := nu_ok n2.1
          have w0 := rr0 g5
          have w1' := rr1 g5
          have th7 : M7 (202 + (nuV B e s0).toNat) 0 = Ab 0 (nuV B e s0).toNat := by
            rw [f7 _ _ (by omega), tf56 _ _ (by omega), f4 _ _ (by omega), tf123 _ _ (by omega)]
            exact (hmd.2.2.2.1 _ (by omega)).1
          refine an (ak_of rw4 (by decide) (by decide)) (an o159 (an (ak_of rw4 (by decide) (by decide)) ?_))
          rw [show M7 (235 + nL Ab) (Int.toNat 1) = v1 from g1, show M7 (235 + nL Ab) (Int.toNat 0) = v0 from g07, w0]
          refine an (ak_of sh201 n1.2.1 (by omega)) ?_
          rw [th_row rfl]
          refine an (ak_of (sh_th _ (by omega)) (by decide) (by decide)) ?_
          rw [show M7 (202 + (nuV B e s0).toNat) (Int.toNat 0) = _ from th7]
          refine br (fun g6 => ?_) (fun g6 => an o159 (r_wr ts7 (fun z => ?_) (by decide) (fun M8 tf8 ts8 => fin M8 _ v0 v1 (lf7.tr (LFr.tf tf8)) (fun u v a b c => ?_) ?_ ?_ ?_ ?_ (fun z => ?_))))
          · have g6 : ¬ v1 = Ab 0 (nuV B e s0).toNat := g6
            have hc : loC B e Ab s0 = false := by
              unfold loC
              rw [← w1', decide_eq_false (show ¬ Ab 0 (nuV B e s0).toNat = v1 from fun z => g6 z.symm), Bool.and_false]
            refine fin M7 _ v0 v1 lf7 fr7 o38 g07 g1 ?_ (fun _ => ⟨w0, w1'⟩)
            rw [lo3e false hc, if_neg (by decide)]; exact ts7
          · rw [h2t z]; exact here (ok2 z)
          · rw [tf8 _ _ (by omega)]; exact fr7 u v a b c
          · rw [tf8 _ _ (by omega)]; exact o38
          · rw [tf8 _ _ (by omega)]; exact g07
          · rw [tf8 _ _ (by omega)]; exact g1
          · have g6 : v1 = Ab 0 (nuV B e s0).toNat := Classical.not_not.mp g6
            have hc : loC B e Ab s0 = true := by
              unfold loC
              rw [← w1', decide_eq_true g5, decide_eq_true g6.symm]
              rfl
            rw [lo3e true hc, if_pos rfl]; exact ts8
          · exact ⟨w0, w1'⟩
      · have g : M1 159 38 = 20 := Classical.not_not.mp g
        unfold loW
        rw [if_neg (fun z => z w6'), if_pos (by omega)]
      · show (rfK 0 3, rfP 0 t fp) = _
        unfold rfK rfP
        rw [if_pos rfl, if_pos rfl]
    · have tr1 : TRs M1 B e (sk cBl B e p, sk cBl B e p, 0, fp) := ⟨_, ts1, fun _ => rfl⟩
      refine r_wr tr1 (fun _ => ts1.2.1) (by decide) (fun M2 tf2 ts2 => flt 1 (reT 1 (sk cLt B e (sk cBl B e p), sk cBl B e p, 0, fp)) (by decide) ?_ ?_ M2 (tf1.tr tf2) ts2)
      · unfold loW
        rw [if_pos w6']
      · show (rfK 0 1, rfP 0 _ fp) = _
        unfold rfK rfP
        rw [if_pos rfl, if_pos rfl]

  · exact h.elim