
theorem lo_fp {B : Nat → Int} {e : Nat} {Ab : Mem} {s : Tp} (h : (lo5 B e Ab s).2.2.1 = 0) : (lo5 B e Ab s).2.2.2 = s.2.2.2 := by
  obtain ⟨h5, h4, h3, h2, h1⟩ := lo5_ok h
  have e3 : lo3 B e Ab s = lo2 B e Ab s := by
    have z := h4.1
    unfold lo3 at z ⊢
    by_cases q : loC B e Ab s = true
    · rw [if_pos q] at z; exact absurd z (re_fk (by decide))
    · rw [if_neg q]
  have a3 : (lo3 B e Ab s).2.2.2 = s.2.2.2 := by
    rw [e3]
    exact (nu_fp h3.1).trans (nu_fp h2.1)
  exact (nu_fp h).trans ((nu_fp h5.1).trans a3)
theorem lw_fp {B : Nat → Int} {e n : Nat} {s : Tp} (h : (loW B e n s).2.2.1 = 0) : (loW B e n s).2.2.2 = s.2.2.2 ∧ ¬ n = 0 := by
  unfold loW at h ⊢
  split at h
  · exact absurd h (re_fk (by decide))
  · rename_i w
    rw [if_neg w]
    split at h
    · exact absurd h (re_fk (by decide))
    · rename_i w2
      rw [if_neg w2]
      exact ⟨rfl, w2⟩
theorem ll_no {B : Nat → Int} {e : Nat} {a : Mem × Tp} (h : ¬ a.2.2.2.1 = 0) : ∀ m, llS B e m a = a
  | 0 => rfl
  | m + 1 => by
    have hb : ¬ hmB B e a.2 = true := by unfold hmB; rw [decide_eq_false h]; simp
    have ht : hmT B e a.2 = a.2 := by unfold hmT; rw [if_neg h]
    rw [llS, if_neg hb, ht]
theorem ll_end {B : Nat → Int} {e : Nat} {a : Mem × Tp} {m : Nat} (h : a.2.2.2.1 = 0) (hp : ¬ sk cBl B e a.2.1 < e) : llS B e (m + 1) a = (a.1, (sk cBl B e a.2.1, sk cBl B e a.2.1, a.2.2.2.1, a.2.2.2.2)) := by
  have hb : ¬ hmB B e a.2 = true := by unfold hmB; rw [decide_eq_false hp]; simp
  have ht : hmT B e a.2 = (sk cBl B e a.2.1, sk cBl B e a.2.1, a.2.2.2.1, a.2.2.2.2) := by unfold hmT; rw [if_pos h]
  rw [llS, if_neg hb, ht]
theorem ll_go {B : Nat → Int} {e : Nat} {a : Mem × Tp} {c : Nat} (hc : c ≤ 20) (hn : nL a.1 = c) (h : a.2.2.2.1 = 0) (hl : a.2.1 ≤ e) (hp : sk cBl B e a.2.1 < e) : llS B e (21 - c) a = llS B e (21 - (c + 1)) (leA B e a.1 (sk cBl B e a.2.1) a.2.2.2.2) := by
  have hb : hmB B e a.2 = true := by unfold hmB; rw [decide_eq_true h, decide_eq_true hp]; rfl
  have id1 := sk_id (c := cBl) (B := B) hl
  have ht : wdT B e (hmT B e a.2) = (sk cLt B e (sk cBl B e a.2.1), sk cBl B e a.2.1, 0, a.2.2.2.2) := by
    have h1 : hmT B e a.2 = (sk cBl B e a.2.1, sk cBl B e a.2.1, 0, a.2.2.2.2) := by unfold hmT; rw [if_pos h, h]
    rw [h1]
    unfold wdT
    rw [if_pos rfl]
    show (sk cLt B e (sk cBl B e (sk cBl B e a.2.1)), sk cBl B e (sk cBl B e a.2.1), _, _) = _
    rw [id1]
  rw [show 21 - c = (20 - c) + 1 by omega, llS, if_pos hb, ht, show 21 - (c + 1) = 20 - c by omega]
  unfold leA leS
  rw [id1, hn]
/-- lendings told anew: the rest stays -/
theorem Mdl_ln {M M' : Mem} {s : AS} {A : Mem} (h : Mdl M s) (f : ∀ u v, RC u v → ¬ (u = 159 ∧ (v = 1 ∨ v = 3 ∨ v = 22)) → ¬ (256 ≤ u ∧ u ≤ 275) → M' u v = M u v) (hA : ∀ u v, ¬ (11 ≤ u ∧ u ≤ 14) → ¬ (u = 10 ∧ v = 5) → A u v = s.1 u v) (hl : MdL M' A) (e1 : M' 159 1 = 0) (e3 : M' 159 3 = -1) (b : 0 ≤ M' 159 37 ∧ M' 159 37 ≤ 1000) : Mdl M' (A, tpA s.2.1 (-1), s.2.2) := by
  generalize hM5 : (fun u v => if (u = 159 ∧ (v = 1 ∨ v = 3)) then M u v else M' u v : Mem) = M5
  have f5 : ∀ u v, ¬ (u = 159 ∧ (v = 1 ∨ v = 3)) → M5 u v = M' u v := fun u v q => by rw [← hM5]; exact if_neg q
  have f6 : ∀ u v, (u = 159 ∧ (v = 1 ∨ v = 3)) → M5 u v = M u v := fun u v q => by rw [← hM5]; exact if_pos q
  have sh : SameH A s.1 := ⟨fun u v q => hA u v (by omega) (by omega), fun v q => hA 10 v (by omega) (by omega)⟩
  have l5 : MdL M5 A := hl.kept (f5 _ _ (by omega)) (fun u v a b => f5 u v (by omega))
  have v0 := h.2.2.1
  have v5 : MdV M5 A := by
    have v1 : MdV M5 s.1 := v0.kept (by rw [f5 _ _ (by omega)]; exact f _ _ (by unfold RC; omega) (by omega) (by omega)) (fun u v a b => by rw [f5 _ _ (by omega)]; exact f _ _ (by unfold RC; omega) (by omega) (by omega))
    obtain ⟨q1, q2, q3⟩ := v1
    have e6 : A 10 6 = s.1 10 6 := hA _ _ (by omega) (by omega)
    refine ⟨by rw [e6]; exact q1.same sh (fun u v a b => hA u v (by omega) (by omega)), by rw [e6]; exact q2, fun i hi => ?_⟩
    have hi : i < (A 10 6).toNat := hi
    rw [e6] at hi
    rw [hA 15 i (by omega) (by omega), hA 16 i (by omega) (by omega), hA 17 i (by omega) (by omega)]
    exact q3 i hi
  have h5 : Mdl M5 (A, s.2.1, s.2.2) := h.ab sh l5 v5 (fun u v hu a b c => by
    by_cases q : u = 159 ∧ (v = 1 ∨ v = 3)
    · exact f6 u v q
    · rw [f5 u v q]; exact f u v hu (by omega) (by omega)) (by rw [f5 _ _ (by omega)]; exact b)
  exact Mdl_tp h5 (fun u v hu hv => (f5 u v (by omega)).symm) e1 e3 b

def G_X11_lend : FN := fun as M Q => match as with
  | [.inr (.inl k), .inl n] => k = 159 ∧ mS cd1 (an_lend n) M Q
  | _ => False
def b_X11_lend_0 : List AT := [tx_al 0, tx_ic 0, tx_pi 11 0, tx_al 0, tx_il 1, tx_ic 0, tx_al 0, tx_gi 11 1, tx_call (nf G_X11_in) 3, tx_ifz r_eq 25, tx_il 1, tx_ic 300, tx_cmp r_le 29, tx_fall 25]
def b_X11_lend_25 : List AT := [tx_ic 1, tx_fall 30]
def b_X11_lend_29 : List AT := [tx_ic 0, tx_fall 30]
def b_X11_lend_30 : List AT := [tx_ic 1, tx_ic 1, tx_callv 11 (nf G_X11_bad) 3, tx_ifz r_eq 40, tx_ic 0, tx_ri]
def b_X11_lend_40 : List AT := [tx_al 0, tx_il 1, tx_callv 11 (nf G_X11_starts) 1, tx_al 0, tx_ic 0, tx_pi 11 38, tx_fall 50]
def b_X11_lend_50 : List AT := [tx_al 0, tx_gi 11 5, tx_ifz r_ne 79, tx_al 0, tx_gi 11 4, tx_al 0, tx_gi 11 2, tx_cmp r_ge 79, tx_al 0, tx_callv 11 (nf G_X11_lending) 0, tx_al 0, tx_callv 11 (nf G_X11_blanks) 0, tx_fall 50]
def b_X11_lend_79 : List AT := [tx_al 0, tx_al 0, tx_gi 11 6, tx_pi 11 3, tx_al 0, tx_gi 11 5, tx_ifz r_eq 102, tx_al 0, tx_gi 11 5, tx_ic 10, tx_bin f_sub, tx_ri]
def b_X11_lend_102 : List AT := [tx_al 0, tx_al 0, tx_gi 11 38, tx_pi 11 22, tx_ic 0, tx_is 2, tx_fall 112]
def b_X11_lend_112 : List AT := [tx_il 2, tx_al 0, tx_gi 11 22, tx_cmp r_ge 155, tx_ic 0, tx_is 3, tx_fall 122]
def b_X11_lend_122 : List AT := [tx_il 3, tx_ic 4, tx_cmp r_ge 149, tx_al 0, tx_gr 11 96, tx_il 2, tx_aa 5, tx_il 3, tx_al 0, tx_gr 11 75, tx_il 2, tx_aa 5, tx_il 3, tx_ia, tx_iax, tx_inc 3 1, tx_fall 122]
def b_X11_lend_149 : List AT := [tx_inc 2 1, tx_fall 112]
def b_X11_lend_155 : List AT := [tx_al 0, tx_gi 11 22, tx_ri]
def R_X11_lend (J : JT) (Q : QT) : Prop := (∀ ls st M, wpl J Q b_X11_lend_0 ls st M → J 0 ls st M) ∧ (∀ ls st M, wpl J Q b_X11_lend_25 ls st M → J 25 ls st M) ∧ (∀ ls st M, wpl J Q b_X11_lend_29 ls st M → J 29 ls st M) ∧ (∀ ls st M, wpl J Q b_X11_lend_30 ls st M → J 30 ls st M) ∧ (∀ ls st M, wpl J Q b_X11_lend_40 ls st M → J 40 ls st M) ∧ (∀ ls st M, wpl J Q b_X11_lend_50 ls st M → J 50 ls st M) ∧ (∀ ls st M, wpl J Q b_X11_lend_79 ls st M → J 79 ls st M) ∧ (∀ ls st M, wpl J Q b_X11_lend_102 ls st M → J 102 ls st M) ∧ (∀ ls st M, wpl J Q b_X11_lend_112 ls st M → J 112 ls st M) ∧ (∀ ls st M, wpl J Q b_X11_lend_122 ls st M → J 122 ls st M) ∧ (∀ ls st M, wpl J Q b_X11_lend_149 ls st M → J 149 ls st M) ∧ (∀ ls st M, wpl J Q b_X11_lend_155 ls st M → J 155 ls st M)
theorem R_X11_lend_0 {J : JT} {Q : QT} (R : R_X11_lend J Q) {ls : Ls} {st : St} {M : Mem} (h : wpl J Q b_X11_lend_0 ls st M) : J 0 ls st M := R.1 ls st M h
theorem R_X11_lend_25 {J : JT} {Q : QT} (R : R_X11_lend J Q) {ls : Ls} {st : St} {M : Mem} (h : wpl J Q b_X11_lend_25 ls st M) : J 25 ls st M := R.2.1 ls st M h
theorem R_X11_lend_29 {J : JT} {Q : QT} (R : R_X11_lend J Q) {ls : Ls} {st : St} {M : Mem} (h : wpl J Q b_X11_lend_29 ls st M) : J 29 ls st M := R.2.2.1 ls st M h
theorem R_X11_lend_30 {J : JT} {Q : QT} (R : R_X11_lend J Q) {ls : Ls} {st : St} {M : Mem} (h : wpl J Q b_X11_lend_30 ls st M) : J 30 ls st M := R.2.2.2.1 ls st M h
theorem R_X11_lend_40 {J : JT} {Q : QT} (R : R_X11_lend J Q) {ls : Ls} {st : St} {M : Mem} (h : wpl J Q b_X11_lend_40 ls st M) : J 40 ls st M := R.2.2.2.2.1 ls st M h
theorem R_X11_lend_50 {J : JT} {Q : QT} (R : R_X11_lend J Q) {ls : Ls} {st : St} {M : Mem} (h : wpl J Q b_X11_lend_50 ls st M) : J 50 ls st M := R.2.2.2.2.2.1 ls st M h
theorem R_X11_lend_79 {J : JT} {Q : QT} (R : R_X11_lend J Q) {ls : Ls} {st : St} {M : Mem} (h : wpl J Q b_X11_lend_79 ls st M) : J 79 ls st M := R.2.2.2.2.2.2.1 ls st M h
theorem R_X11_lend_102 {J : JT} {Q : QT} (R : R_X11_lend J Q) {ls : Ls} {st : St} {M : Mem} (h : wpl J Q b_X11_lend_102 ls st M) : J 102 ls st M := R.2.2.2.2.2.2.2.1 ls st M h
theorem R_X11_lend_112 {J : JT} {Q : QT} (R : R_X11_lend J Q) {ls : Ls} {st : St} {M : Mem} (h : wpl J Q b_X11_lend_112 ls st M) : J 112 ls st M := R.2.2.2.2.2.2.2.2.1 ls st M h
theorem R_X11_lend_122 {J : JT} {Q : QT} (R : R_X11_lend J Q) {ls : Ls} {st : St} {M : Mem} (h : wpl J Q b_X11_lend_122 ls st M) : J 122 ls st M := R.2.2.2.2.2.2.2.2.2.1 ls st M h
theorem R_X11_lend_149 {J : JT} {Q : QT} (R : R_X11_lend J Q) {ls : Ls} {st : St} {M : Mem} (h : wpl J Q b_X11_lend_149 ls st M) : J 149 ls st M := R.2.2.2.2.2.2.2.2.2.2.1 ls st M h
theorem R_X11_lend_155 {J : JT} {Q : QT} (R : R_X11_lend J Q) {ls : Ls} {st : St} {M : Mem} (h : wpl J Q b_X11_lend_155 ls st M) : J 155 ls st M := R.2.2.2.2.2.2.2.2.2.2.2 ls st M h
theorem P_X11_lend {J : JT} {Q : QT} (R : R_X11_lend J Q) {as : List Vl} {M : Mem} (h : nf G_X11_lend as M Q) : (enL as).length ≤ 4 ∧ J 0 (padL 4 (enL as)) [] M := by
  unfold nf G_X11_lend at h
  split at h
  · rename_i k n
    obtain ⟨rfl, s, hM, hQ⟩ := h
    have h1 := hM.t0 0
    have e0 : up M 159 0 0 159 0 = 0 := up_eq
    have mf : MF M (up M 159 0 0) := MF.t0 M 0
    have et : up M 159 0 0 159 1 = s.2.1 10 8 := h1.2.2.2.2.1.2.1
    have no2 : ¬ (0 ≤ n ∧ n ≤ s.2.1 10 8 ∧ n ≤ 300) → an_lend n s = nay s 2 := fun c => if_pos c
    have body : (0 ≤ n ∧ n ≤ s.2.1 10 8 ∧ n ≤ 300) → J 40 [some (vR 159), some (vI n), none, none] [] (up M 159 0 0) := by
      intro c1
      have ea : an_lend n s = _ := if_neg (fun z => z c1)
      rw [ea] at hQ
      generalize up M 159 0 0 = M1 at h1 e0 mf
      obtain ⟨tok, tt1, tt3, tB⟩ := h1.2.2.2.2.1
      have tb := tok.1
      generalize hR : llR s n = Rz at hQ
      refine R_X11_lend_40 R (an o159 ⟨fun i => s.2.1 18 i, ⟨rfl, c1.1, by omega⟩, fun i hi => ⟨tB i hi, tok.2 i hi⟩, fun M2 f2 e21 e27 ts2 => an o159 ?_⟩)
      generalize hM3 : up M2 159 38 0 = M3
      have f3 : ∀ u v, ¬ (u = 159 ∧ (v = 1 ∨ v = 2 ∨ (4 ≤ v ∧ v ≤ 7) ∨ v = 38)) → M3 u v = M1 u v := fun u v a => by rw [← hM3, up_ne (by omega)]; exact f2 u v (by omega)
      have e31 : M3 159 1 = 0 := by rw [← hM3, up_ne (by omega)]; exact e21
      have e38 : M3 159 38 = 0 := by rw [← hM3]; exact up_eq
      generalize hB : (fun i => s.2.1 18 i) = B at ts2
      have hR : llS B n.toNat 21 (up s.1 10 5 0, (0, 0, 0, -1)) = Rz := by rw [← hB]; exact hR
      generalize n.toNat = e at ts2 hR
      have ts3 : TRs M3 B e (sk cBl B e 0, 0, 0, -1) := by rw [← hM3]; exact TRs.up (M := M2) (s := (sk cBl B e 0, 0, 0, -1)) ⟨sk cBl B e 0, ts2, fun _ => rfl⟩ (by omega)
      have okR : LoanOK Rz.1 11 (Rz.1 10 5) := by
        rw [← hR]
        refine ll_ok ?_
        show LoanOK (up s.1 10 5 0) 11 (up s.1 10 5 0 10 5)
        rw [up_eq]
        exact ⟨by decide, fun i hi => absurd hi (Nat.not_lt_zero i)⟩
      have inR : ∀ u v, ¬ (11 ≤ u ∧ u ≤ 14) → ¬ (u = 10 ∧ v = 5) → Rz.1 u v = s.1 u v := fun u v a b => by
        rw [← hR, ll_in u v a b]
        exact up_ne b
      obtain ⟨L1, L2⟩ := nL_le okR
      -- what the call may change
      have RCk : ∀ N : Mem, LFr M3 N → ∀ u v, RC u v → ¬ (u = 159 ∧ v = 1) → N u v = M1 u v := fun N cf u v hu h1v => (cf u v (by unfold RC at hu; omega) (by unfold RC at hu; omega)).trans (f3 u v (by unfold RC at hu; omega))
      have MFk : ∀ N : Mem, LFr M3 N → ∀ u v, (u < 159 ∨ 336 ≤ u) → N u v = M u v := fun N cf u v hu => (cf u v (by omega) (by omega)).trans ((f3 u v (by omega)).trans (mf u v hu))
      have z0k : ∀ N : Mem, LFr M3 N → N 159 0 = 0 := fun N cf => (cf _ _ (by omega) (by omega)).trans ((f3 _ _ (by omega)).trans e0)
      have z1k : ∀ N : Mem, LFr M3 N → N 159 1 = 0 := fun N cf => (cf _ _ (by omega) (by omega)).trans e31
      have z37 : ∀ N : Mem, LFr M3 N → 0 ≤ N 159 37 ∧ N 159 37 ≤ 1000 := fun N cf => by rw [cf _ _ (by omega) (by omega), f3 _ _ (by omega)]; exact h1.2.2.2.2.2.2.2
      have at79 : ∀ (z2 z3 : Option Vl) (N : Mem), LFr M3 N → N 159 5 = Rz.2.2.2.1 → N 159 6 = Rz.2.2.2.2 → (Rz.2.2.2.1 = 0 → RdL N Rz.1 ∧ Rz.2.2.2.2 = -1) → J 79 [some (vR 159), some (vI n), z2, z3] [] N := by
        intro z2 z3 N cf h5 h6 hok
        have RC3 := RCk N cf
        refine R_X11_lend_79 R (an o159 (an o159 (an o159 ?_)))
        generalize hM4 : up N 159 3 (N 159 6) = M4
        have f4 : ∀ u v, ¬ (u = 159 ∧ v = 3) → M4 u v = N u v := fun u v h => by rw [← hM4, up_ne h]
        have e3 : M4 159 3 = Rz.2.2.2.2 := by rw [← hM4, up_eq]; exact h6
        have e5 : M4 159 5 = Rz.2.2.2.1 := (f4 _ _ (by omega)).trans h5
        refine br (fun g => R_X11_lend_102 R (an o159 (an o159 ?_))) (fun g => an o159 ?_)
        · have g : M4 159 5 = 0 := g
          rw [e5] at g
          rw [if_neg (fun z => z g)] at hQ
          obtain ⟨hrl, hfp⟩ := hok g
          have e38' : M4 159 38 = Rz.1 10 5 := (f4 _ _ (by omega)).trans hrl.2.1
          generalize hN0 : up M4 159 22 (M4 159 38) = N0
          have f0 : ∀ u v, ¬ (u = 159 ∧ v = 22) → N0 u v = M4 u v := fun u v h => by rw [← hN0, up_ne h]
          have k1_g : N0 159 22 = Rz.1 10 5 := by rw [← hN0, up_eq]; exact e38'
          have fin : ∀ (x : Int) (z3 : Option Vl) (N5 : Mem), Cp N0 N5 256 235 4 (nL Rz.1) (fun j k => j < nL Rz.1) → J 155 [some (vR 159), some (vI n), some (vI x), z3] [] N5 := by
            intro x z3 N5 hp
            refine R_X11_lend_155 R (an o159 ?_)
            have n5 : ∀ u v, ¬ (256 ≤ u ∧ u ≤ 275) → ¬ (u = 159 ∧ (v = 3 ∨ v = 22)) → N5 u v = N u v := fun u v a b => by rw [hp.1 u v (by omega), f0 u v (by omega), f4 u v (by omega)]
            have e22 : N5 159 22 = Rz.1 10 5 := (hp.1 _ _ (by omega)).trans k1_g
            have ml : MdL N5 Rz.1 := by
              refine ⟨okR, e22, fun i hi => ?_⟩
              have g' : ∀ c, c < 4 → N5 (256 + i) c = N (235 + i) c := fun c hc => by rw [hp.2 i c hi hc hi, f0 _ _ (by omega), f4 _ _ (by omega)]
              rw [g' 0 (by decide), g' 1 (by decide), g' 2 (by decide), g' 3 (by decide)]
              exact hrl.2.2 i hi
            refine hQ N5 _ (fun u v hu => (n5 u v (by omega) (by omega)).trans (MFk N cf u v hu)) (Mdl_ln h1 (fun u v hu a b => (n5 u v b (by omega)).trans (RC3 u v hu (by omega))) inR ml ((n5 _ _ (by omega) (by omega)).trans (z1k N cf)) ?_ (by rw [n5 _ _ (by omega) (by omega)]; exact z37 N cf)) ((n5 _ _ (by omega) (by omega)).trans (z0k N cf)) (fun _ => e22)
            rw [hp.1 _ _ (by omega), f0 _ _ (by omega), e3]; exact hfp
      
          have k1 : ∀ i, i ≤ nL Rz.1 → ∀ (x : Int) (N : Mem) (z3 : Option Vl), x = (i : Int) → Cp N0 N 256 235 4 (nL Rz.1) (fun j k => j < i) → J 112 [some (vR 159), some (vI n), some (vI x), z3] [] N := by
            refine dn ?_ ?_
            · intro x N z3 hx hp
              exact R_X11_lend_112 R (an o159 (bt (show N 159 22 ≤ x by rw [hp.1 _ _ (by omega), k1_g]; omega) (fin x z3 N hp)))
            · intro i hi ih x N z3 hx hp
              have hxn : x.toNat = i := by omega
              have inner : ∀ c : Nat, c ≤ 4 → ∀ (y : Int) (N : Mem), y = (c : Int) → Cp N0 N 256 235 4 (nL Rz.1) (fun j k => j < i ∨ (j = i ∧ k < c)) → J 122 [some (vR 159), some (vI n), some (vI x), some (vI y)] [] N := by
                refine dn ?_ ?_
                · intro y N hy hp
                  exact R_X11_lend_122 R (bt (show (4 : Int) ≤ y by omega) (R_X11_lend_149 R (ih _ _ _ (wn hx (by omega)) (hp.mono (fun j k h1 h2 h3 => by omega)))))
                · intro c hc ihc y N hy hp
                  have hyn : y.toNat = c := by omega
                  refine R_X11_lend_122 R (bf (show ¬ (4 : Int) ≤ y by omega) (an o159 (an (ak_of sh255 (by omega) (by omega)) ?_)))
                  rw [le_row hxn]
                  refine an o159 (an (ak_of sh234 (by omega) (by omega)) ?_)
                  rw [rl_row hxn]
                  refine an (ak_of (sh_rl i (by omega)) (by omega) (by omega)) (an (ak_of (sh_le i (by omega)) (by omega) (by omega)) (ihc _ _ (wn hy (by omega)) ?_))
                  rw [hyn]
                  exact hp.put (by omega) hi (fun j k h1 h2 h3 => by omega)
              exact R_X11_lend_112 R (an o159 (bf (show ¬ N 159 22 ≤ x by rw [hp.1 _ _ (by omega), k1_g]; omega) (inner 0 (Nat.zero_le _) _ N rfl (hp.mono (fun j k h1 h2 h3 => by omega)))))
      
          exact k1 0 (Nat.zero_le _) _ N0 _ rfl ⟨fun _ _ _ => rfl, fun j k _ _ h => absurd h (Nat.not_lt_zero j)⟩
        · have g : ¬ M4 159 5 = 0 := g
          rw [e5] at g
          rw [if_pos g] at hQ
          refine hQ M4 _ (fun u v hu => (f4 u v (by omega)).trans (MFk N cf u v hu)) (Mdl_tp h1 (fun u v hu hv => (f4 u v (by omega)).trans (RC3 u v hu (by omega))) ((f4 _ _ (by omega)).trans (z1k N cf)) e3 (by rw [f4 _ _ (by omega)]; exact z37 N cf)) ((f4 _ _ (by omega)).trans (z0k N cf)) (fun _ => ?_)
          show f_sub (M4 159 5) 10 = f_sub Rz.2.2.2.1 10
          rw [e5]
      have loop : ∀ c : Nat, c ≤ 21 → ∀ (z2 z3 : Option Vl) (N : Mem) (a : Mem × Tp), LFr M3 N → TRs N B e (sk cBl B e a.2.1, a.2.2) → (a.2.2.2.1 = 0 → RdL N a.1 ∧ nL a.1 = c ∧ c ≤ 20 ∧ a.2.2.2.2 = -1 ∧ a.2.1 ≤ e ∧ SameH a.1 s.1) → llS B e (21 - c) a = Rz → J 50 [some (vR 159), some (vI n), z2, z3] [] N := by
        have faulty : ∀ (c : Nat) (z2 z3 : Option Vl) (N : Mem) (a : Mem × Tp), LFr M3 N → TRs N B e (sk cBl B e a.2.1, a.2.2) → ¬ a.2.2.2.1 = 0 → llS B e (21 - c) a = Rz → J 50 [some (vR 159), some (vI n), z2, z3] [] N := by
          intro c z2 z3 N a cf ts hf hp
          rw [ll_no hf] at hp
          subst hp
          have f5 : ¬ N 159 5 = 0 := by rw [ts.fk]; exact hf
          exact R_X11_lend_50 R (an o159 (bt f5 (at79 z2 z3 N cf ts.fk ts.fp (fun z => absurd z hf))))
        refine dn ?_ ?_
        · intro z2 z3 N a cf ts hk hp
          by_cases q : a.2.2.2.1 = 0
          · have := (hk q).2.2.1; omega
          · exact faulty 21 z2 z3 N a cf ts q hp
        · intro c hc ih z2 z3 N a cf ts hk hp
          by_cases q : a.2.2.2.1 = 0
          · obtain ⟨hrl, hn, hc20, hfp, hle, hsh⟩ := hk q
            have f5 : N 159 5 = 0 := by rw [ts.fk]; exact q
            have a4 : N 159 4 = ((sk cBl B e a.2.1 : Nat) : Int) := ts.at q
            have e2 : N 159 2 = (e : Int) := by obtain ⟨p, tx, -⟩ := ts; exact tx.1
            refine R_X11_lend_50 R (an o159 (bf (fun z => z f5) (an o159 (an o159 (br (fun g => ?_) (fun g => an o159 ?_))))))
            · have g : N 159 2 ≤ N 159 4 := g
              have nl : ¬ sk cBl B e a.2.1 < e := by omega
              rw [show 21 - c = (20 - c) + 1 by omega, ll_end q nl] at hp
              subst hp
              exact at79 z2 z3 N cf ts.fk ts.fp (fun _ => ⟨hrl, hfp⟩)
            · have g : ¬ N 159 2 ≤ N 159 4 := g
              have lt : sk cBl B e a.2.1 < e := by omega
              rw [ll_go hc20 hn q hle lt] at hp
              have tx : TRx N B e (sk cBl B e a.2.1) 0 a.2.2.2.2 := by
                obtain ⟨p, tx, hpp⟩ := ts
                have hpp := hpp q
                have hpp : p = sk cBl B e a.2.1 := hpp
                rw [hpp] at tx
                have tx : TRx N B e (sk cBl B e a.2.1) a.2.2.2.1 a.2.2.2.2 := tx
                rw [q] at tx
                exact tx
              have mdp : MdP N a.1 := by
                refine MdP.same ?_ hsh
                obtain ⟨ho, ⟨b0, b1, b2, b3, b4⟩, d1, d2, d3, d4⟩ := h1.1
                have q1 := (nP_le ho).1
                have q2 := (nT_le ho).1
                have q3 := (nM_le ho).1
                have kk : ∀ u v, (u = 163 ∨ (176 ≤ u ∧ u ≤ 185) ∨ (202 ≤ u ∧ u ≤ 215) ∨ (226 ≤ u ∧ u ≤ 233) ∨ u = 277) → N u v = M1 u v := fun u v hu => RCk N cf u v (by unfold RC; omega) (by omega)
                refine ⟨ho, ⟨?_, ?_, ?_, ?_, ?_⟩, fun p hp => ?_, fun p hp => ?_, fun p hp => ?_, fun p hp => ?_⟩
                · rw [kk _ _ (by omega)]; exact b0
                · rw [kk _ _ (by omega)]; exact b1
                · rw [kk _ _ (by omega)]; exact b2
                · rw [kk _ _ (by omega)]; exact b3
                · rw [kk _ _ (by omega)]; exact b4
                · rw [kk _ _ (by omega), kk _ _ (by omega)]; exact d1 p hp
                · rw [kk _ _ (by omega), kk _ _ (by omega), kk _ _ (by omega), kk _ _ (by omega)]; exact d2 p hp
                · rw [kk _ _ (by omega)]; exact d3 p hp
                · rw [kk _ _ (by omega), kk _ _ (by omega), kk _ _ (by omega)]; exact d4 p hp
              refine ⟨B, e, sk cBl B e a.2.1, a.2.2.2.2, a.1, rfl, tx, mdp, hrl, fun N2 cf2 ts2 hd2 => an o159 (r_bl ts2 (fun N3 tf3 ts3 => ?_))⟩
              refine ih z2 z3 N3 (leA B e a.1 (sk cBl B e a.2.1) a.2.2.2.2) (cf.tr (cf2.tr (LFr.tf tf3))) ts3 (fun z => ?_) hp
              have d1 := hd2 z
              have z5 : (lo5 B e a.1 (leS B e a.1 (sk cBl B e a.2.1) a.2.2.2.2)).2.2.1 = 0 := st_fk z
              have zs : (leS B e a.1 (sk cBl B e a.2.1) a.2.2.2.2).2.2.1 = 0 := (lo5_ok z5).2.2.2.2.1
              obtain ⟨zf, zn⟩ := lw_fp zs
              have c20 : a.1 10 5 < 20 := by
                have := (nL_le hrl.1).2
                omega
              refine ⟨d1.tf tf3, ?_, by omega, (st_fp z).trans ((lo_fp z5).trans (zf.trans hfp)), ?_, rlo_same.tr hsh⟩
              · show nL (rloM B e a.1 (leS B e a.1 (sk cBl B e a.2.1) a.2.2.2.2)) = c + 1
                unfold rloM nL
                rw [if_pos ⟨z5, c20⟩, up_eq]
                have := (nL_le hrl.1).2
                have b0 := hrl.1.1
                omega
              · obtain ⟨p, tx3, hp3⟩ := ts2
                rw [← hp3 z]; exact tx3.2.2.2.2.2.1
          · exact faulty c z2 z3 N a cf ts q hp
      refine loop 0 (by decide) _ _ M3 (up s.1 10 5 0, (0, 0, 0, -1)) (fun _ _ _ _ => rfl) ts3 (fun _ => ⟨⟨?_, ?_, fun i hi => ?_⟩, ?_, by decide, rfl, Nat.zero_le _, SameH.up (by omega)⟩) hR
      · show LoanOK (up s.1 10 5 0) 11 (up s.1 10 5 0 10 5)
        rw [up_eq]
        exact ⟨by decide, fun i hi => absurd hi (Nat.not_lt_zero i)⟩
      · show M3 159 38 = up s.1 10 5 0 10 5
        rw [up_eq]; exact e38
      · have hi : i < (up s.1 10 5 0 10 5).toNat := hi
        rw [up_eq] at hi
        exact absurd hi (Nat.not_lt_zero i)
      · show (up s.1 10 5 0 10 5).toNat = 0
        rw [up_eq]
        rfl
    have atB : ∀ b : Int, (b = 0 ∧ (0 ≤ n ∧ n ≤ s.2.1 10 8 ∧ n ≤ 300)) ∨ (b = 1 ∧ ¬ (0 ≤ n ∧ n ≤ s.2.1 10 8 ∧ n ≤ 300)) → J 30 [some (vR 159), some (vI n), none, none] [vI b, vR 159] (up M 159 0 0) := by
      intro b hb
      rcases hb with ⟨rfl, c2⟩ | ⟨rfl, c2⟩
      · exact R_X11_lend_30 R (an o159 ⟨⟨rfl, by decide, by decide, e0⟩, fun z => absurd rfl z, fun _ => bt rfl (body c2)⟩)
      · exact R_X11_lend_30 R (an o159 ⟨⟨rfl, by decide, by decide, e0⟩, fun _ => bf (by decide) (m_no (cd := cd1) (Q := fun r M' => Q (.inl r) M') hM 2 1 (by decide) rfl (no2 c2) 0 hQ), fun z => absurd z (by decide)⟩)
    refine ⟨Nat.le_of_ble_eq_true rfl, R_X11_lend_0 R (an o159 (an o159 (br (fun d0 => bf (by decide) (br (fun d1 => R_X11_lend_29 R (atB 0 (Or.inl ⟨rfl, ?_⟩))) (fun d1 => R_X11_lend_25 R (atB 1 (Or.inr ⟨rfl, ?_⟩))))) (fun d0 => bt rfl (R_X11_lend_25 R (atB 1 (Or.inr ⟨rfl, ?_⟩)))))))⟩
    · have d1 : n ≤ 300 := d1
      omega
    · have d1 : ¬ n ≤ 300 := d1
      omega
    · omega

  · exact h.elim