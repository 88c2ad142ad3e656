/-! a clause, by the reference -/
def RdP (M Ab : Mem) : Prop := HallOK Ab ∧ (M 162 0 = Ab 10 1 ∧ M 162 1 = Ab 10 2 ∧ M 162 2 = Ab 10 3 ∧ M 162 3 = Ab 10 4 ∧ M 162 4 = Ab 10 0) ∧
  (∀ p, p < nP Ab → M (165 + p) 0 = Ab 4 p ∧ M (165 + p) 1 = Ab 5 p) ∧ (∀ t, t < nT Ab → M (187 + t) 0 = Ab 0 t ∧ M (187 + t) 1 = Ab 1 t ∧ M (187 + t) 2 = Ab 2 t ∧ M (187 + t) 3 = Ab 3 t) ∧
  (∀ d, d < nD Ab → M 276 d = Ab 6 d) ∧ ∀ m, m < nM Ab → M (217 + m) 0 = Ab 7 m ∧ M (217 + m) 1 = Ab 8 m ∧ M (217 + m) 2 = Ab 9 m
def RdC (u : Nat) : Prop := u = 162 ∨ (165 ≤ u ∧ u ≤ 174) ∨ (187 ≤ u ∧ u ≤ 200) ∨ (217 ≤ u ∧ u ≤ 224) ∨ u = 276
theorem RdP.kept {M M' Ab : Mem} (h : RdP M Ab) (e : ∀ u v, RdC u → M' u v = M u v) : RdP M' Ab := by
  obtain ⟨ho, ⟨a0, a1, a2, a3, a4⟩, h1, h2, h3, h4⟩ := h
  have p1 := (nP_le ho).1
  have t1 := (nT_le ho).1
  have m1 := (nM_le ho).1
  have k : ∀ u v, RdC u → M' u v = M u v := e
  refine ⟨ho, ⟨by rw [k _ _ (by unfold RdC; omega)]; exact a0, by rw [k _ _ (by unfold RdC; omega)]; exact a1, by rw [k _ _ (by unfold RdC; omega)]; exact a2, by rw [k _ _ (by unfold RdC; omega)]; exact a3, by rw [k _ _ (by unfold RdC; omega)]; exact a4⟩, fun p hp => ?_, fun p hp => ?_, fun p hp => ?_, fun p hp => ?_⟩
  · rw [k _ _ (by unfold RdC; omega), k _ _ (by unfold RdC; omega)]; exact h1 p hp
  · rw [k _ _ (by unfold RdC; omega), k _ _ (by unfold RdC; omega), k _ _ (by unfold RdC; omega), k _ _ (by unfold RdC; omega)]; exact h2 p hp
  · rw [k _ _ (by unfold RdC; omega)]; exact h3 p hp
  · rw [k _ _ (by unfold RdC; omega), k _ _ (by unfold RdC; omega), k _ _ (by unfold RdC; omega)]; exact h4 p hp
theorem RdP.tf {M M' Ab : Mem} (h : RdP M Ab) (e : TFr M M') : RdP M' Ab := h.kept (fun u v hu => e u v (by unfold RdC at hu; omega))
theorem sh162 : SH 162 = (1, 5, 0, 0) := rfl
def fuC (Ab : Mem) (k : Int) : Prop := (k = 0 ∧ Ab 10 1 = 10) ∨ ((k = 1 ∨ k = 5) ∧ Ab 10 2 = 14) ∨ (k = 2 ∧ Ab 10 3 = 3) ∨ (k = 3 ∧ Ab 10 4 = 8)
def G_X11_isFull : FN := fun as M Q => match as with
  | [.inr (.inl k), .inl x] => ∃ Ab, (k = 159 ∧ 0 ≤ x ∧ x ≤ 5) ∧ RdP M Ab ∧ bq (fuC Ab x) Q M
  | _ => False
def b_X11_isFull_0 : List AT := [tx_il 1, tx_ifz r_ne 23, tx_al 0, tx_gr 11 3, tx_ic 0, tx_ia, tx_ic 10, tx_cmp r_ne 19, tx_ic 1, tx_fall 96]
def b_X11_isFull_19 : List AT := [tx_ic 0, tx_fall 96]
def b_X11_isFull_23 : List AT := [tx_il 1, tx_ic 1, tx_cmp r_eq 33, tx_il 1, tx_ic 5, tx_cmp r_ne 52, tx_fall 33]
def b_X11_isFull_33 : List AT := [tx_al 0, tx_gr 11 3, tx_ic 1, tx_ia, tx_ic 14, tx_cmp r_ne 48, tx_ic 1, tx_fall 96]
def b_X11_isFull_48 : List AT := [tx_ic 0, tx_fall 96]
def b_X11_isFull_52 : List AT := [tx_il 1, tx_ic 2, tx_cmp r_ne 75, tx_al 0, tx_gr 11 3, tx_ic 2, tx_ia, tx_ic 3, tx_cmp r_ne 71, tx_ic 1, tx_fall 96]
def b_X11_isFull_71 : List AT := [tx_ic 0, tx_fall 96]
def b_X11_isFull_75 : List AT := [tx_il 1, tx_ic 3, tx_cmp r_ne 95, tx_al 0, tx_gr 11 3, tx_ic 3, tx_ia, tx_ic 8, tx_cmp r_ne 95, tx_ic 1, tx_fall 96]
def b_X11_isFull_95 : List AT := [tx_ic 0, tx_fall 96]
def b_X11_isFull_96 : List AT := [tx_rz]
def R_X11_isFull (J : JT) (Q : QT) : Prop := (∀ ls st M, wpl J Q b_X11_isFull_0 ls st M → J 0 ls st M) ∧ (∀ ls st M, wpl J Q b_X11_isFull_19 ls st M → J 19 ls st M) ∧ (∀ ls st M, wpl J Q b_X11_isFull_23 ls st M → J 23 ls st M) ∧ (∀ ls st M, wpl J Q b_X11_isFull_33 ls st M → J 33 ls st M) ∧ (∀ ls st M, wpl J Q b_X11_isFull_48 ls st M → J 48 ls st M) ∧ (∀ ls st M, wpl J Q b_X11_isFull_52 ls st M → J 52 ls st M) ∧ (∀ ls st M, wpl J Q b_X11_isFull_71 ls st M → J 71 ls st M) ∧ (∀ ls st M, wpl J Q b_X11_isFull_75 ls st M → J 75 ls st M) ∧ (∀ ls st M, wpl J Q b_X11_isFull_95 ls st M → J 95 ls st M) ∧ (∀ ls st M, wpl J Q b_X11_isFull_96 ls st M → J 96 ls st M)
theorem R_X11_isFull_0 {J : JT} {Q : QT} (R : R_X11_isFull J Q) {ls : Ls} {st : St} {M : Mem} (h : wpl J Q b_X11_isFull_0 ls st M) : J 0 ls st M := R.1 ls st M h
theorem R_X11_isFull_19 {J : JT} {Q : QT} (R : R_X11_isFull J Q) {ls : Ls} {st : St} {M : Mem} (h : wpl J Q b_X11_isFull_19 ls st M) : J 19 ls st M := R.2.1 ls st M h
theorem R_X11_isFull_23 {J : JT} {Q : QT} (R : R_X11_isFull J Q) {ls : Ls} {st : St} {M : Mem} (h : wpl J Q b_X11_isFull_23 ls st M) : J 23 ls st M := R.2.2.1 ls st M h
theorem R_X11_isFull_33 {J : JT} {Q : QT} (R : R_X11_isFull J Q) {ls : Ls} {st : St} {M : Mem} (h : wpl J Q b_X11_isFull_33 ls st M) : J 33 ls st M := R.2.2.2.1 ls st M h
theorem R_X11_isFull_48 {J : JT} {Q : QT} (R : R_X11_isFull J Q) {ls : Ls} {st : St} {M : Mem} (h : wpl J Q b_X11_isFull_48 ls st M) : J 48 ls st M := R.2.2.2.2.1 ls st M h
theorem R_X11_isFull_52 {J : JT} {Q : QT} (R : R_X11_isFull J Q) {ls : Ls} {st : St} {M : Mem} (h : wpl J Q b_X11_isFull_52 ls st M) : J 52 ls st M := R.2.2.2.2.2.1 ls st M h
theorem R_X11_isFull_71 {J : JT} {Q : QT} (R : R_X11_isFull J Q) {ls : Ls} {st : St} {M : Mem} (h : wpl J Q b_X11_isFull_71 ls st M) : J 71 ls st M := R.2.2.2.2.2.2.1 ls st M h
theorem R_X11_isFull_75 {J : JT} {Q : QT} (R : R_X11_isFull J Q) {ls : Ls} {st : St} {M : Mem} (h : wpl J Q b_X11_isFull_75 ls st M) : J 75 ls st M := R.2.2.2.2.2.2.2.1 ls st M h
theorem R_X11_isFull_95 {J : JT} {Q : QT} (R : R_X11_isFull J Q) {ls : Ls} {st : St} {M : Mem} (h : wpl J Q b_X11_isFull_95 ls st M) : J 95 ls st M := R.2.2.2.2.2.2.2.2.1 ls st M h
theorem R_X11_isFull_96 {J : JT} {Q : QT} (R : R_X11_isFull J Q) {ls : Ls} {st : St} {M : Mem} (h : wpl J Q b_X11_isFull_96 ls st M) : J 96 ls st M := R.2.2.2.2.2.2.2.2.2 ls st M h
theorem P_X11_isFull {J : JT} {Q : QT} (R : R_X11_isFull J Q) {as : List Vl} {M : Mem} (h : nf G_X11_isFull as M Q) : (enL as).length ≤ 2 ∧ J 0 (padL 2 (enL as)) [] M := by
  unfold nf G_X11_isFull at h
  split at h
  · rename_i k x
    obtain ⟨Ab, ⟨rfl, x0, x5⟩, hr, hQ⟩ := h
    obtain ⟨a0, a1, a2, a3, -⟩ := hr.2.1
    have yes : fuC Ab x → J 96 [some (vR 159), some (vI x)] [vI 1] M := fun c => R_X11_isFull_96 R (an (Or.inr rfl) (hQ.1 c))
    have no : ¬ fuC Ab x → J 96 [some (vR 159), some (vI x)] [vI 0] M := fun c => R_X11_isFull_96 R (an (Or.inl rfl) (hQ.2 c))
    have a33 : ¬ x = 0 → (x = 1 ∨ x = 5) → J 33 [some (vR 159), some (vI x)] [] M := by
      intro g0 g
      refine R_X11_isFull_33 R (an o159 (an (ak_of sh162 (by decide) (by decide)) ?_))
      rw [show M (159 + 3) (Int.toNat 1) = Ab 10 2 from a1]
      refine br (fun z => R_X11_isFull_48 R (no (fun c => ?_))) (fun z => yes ?_)
      · have z : ¬ Ab 10 2 = 14 := z
        unfold fuC at c; omega
      · have z : Ab 10 2 = 14 := Classical.not_not.mp z
        unfold fuC; omega
    refine ⟨Nat.le_of_ble_eq_true rfl, R_X11_isFull_0 R (br (fun g => R_X11_isFull_23 R (br (fun g1 => a33 g (Or.inl g1)) (fun g1 => br (fun g2 => R_X11_isFull_52 R (br (fun g3 => R_X11_isFull_75 R (br (fun g4 => R_X11_isFull_95 R (no (fun c => ?_))) (fun g4 => an o159 (an (ak_of sh162 (by decide) (by decide)) ?_)))) (fun g3 => an o159 (an (ak_of sh162 (by decide) (by decide)) ?_)))) (fun g2 => a33 g (Or.inr (Classical.not_not.mp g2)))))) (fun g => an o159 (an (ak_of sh162 (by decide) (by decide)) ?_)))⟩
    · have g : ¬ x = 0 := g
      have g1 : ¬ x = 1 := g1
      have g2 : ¬ x = 5 := g2
      have g3 : ¬ x = 2 := g3
      have g4 : ¬ x = 3 := g4
      unfold fuC at c; omega
    · have g4 : x = 3 := Classical.not_not.mp g4
      rw [show M (159 + 3) (Int.toNat 3) = Ab 10 4 from a3]
      refine br (fun z => R_X11_isFull_95 R (no (fun c => ?_))) (fun z => yes ?_)
      · have z : ¬ Ab 10 4 = 8 := z
        unfold fuC at c; omega
      · have z : Ab 10 4 = 8 := Classical.not_not.mp z
        unfold fuC; omega
    · have g3 : x = 2 := Classical.not_not.mp g3
      rw [show M (159 + 3) (Int.toNat 2) = Ab 10 3 from a2]
      refine br (fun z => R_X11_isFull_71 R (no (fun c => ?_))) (fun z => yes ?_)
      · have z : ¬ Ab 10 3 = 3 := z
        unfold fuC at c; omega
      · have z : Ab 10 3 = 3 := Classical.not_not.mp z
        unfold fuC; omega
    · have g : x = 0 := Classical.not_not.mp g
      rw [show M (159 + 3) (Int.toNat 0) = Ab 10 1 from a0]
      refine br (fun z => R_X11_isFull_19 R (no (fun c => ?_))) (fun z => yes ?_)
      · have z : ¬ Ab 10 1 = 10 := z
        unfold fuC at c; omega
      · have z : Ab 10 1 = 10 := Classical.not_not.mp z
        unfold fuC; omega
  · exact h.elim
theorem sh164 : SH 164 = (5, 10, 165, 1) := rfl
theorem sh186 : SH 186 = (5, 14, 187, 1) := rfl
theorem sh216 : SH 216 = (5, 8, 217, 1) := rfl
theorem sh276 : SH 276 = (1, 3, 0, 0) := rfl
theorem sh_rp : ∀ i, i < 10 → SH (165 + i) = (1, 2, 0, 0) := by decide
theorem sh_rt : ∀ i, i < 14 → SH (187 + i) = (1, 4, 0, 0) := by decide
theorem sh_rm : ∀ i, i < 8 → SH (217 + i) = (1, 3, 0, 0) := by decide
theorem rp_row {x : Int} {i : Nat} (h : x.toNat = i) : (SH (159 + 5)).2.2.1 + (SH (159 + 5)).2.2.2 * x.toNat = 165 + i := by
  rw [h]
  show 165 + 1 * i = 165 + i
  omega
theorem rt_row {x : Int} {i : Nat} (h : x.toNat = i) : (SH (159 + 27)).2.2.1 + (SH (159 + 27)).2.2.2 * x.toNat = 187 + i := by
  rw [h]
  show 187 + 1 * i = 187 + i
  omega
theorem rm_row {x : Int} {i : Nat} (h : x.toNat = i) : (SH (159 + 57)).2.2.1 + (SH (159 + 57)).2.2.2 * x.toNat = 217 + i := by
  rw [h]
  show 217 + 1 * i = 217 + i
  omega
/-- the frame of a clause -/
def CFr (M M' : Mem) : Prop := ∀ u v, ¬ (u = 159 ∧ 4 ≤ v ∧ v ≤ 7) → ¬ RdC u → M' u v = M u v
theorem CFr.tf {M M' : Mem} (h : TFr M M') : CFr M M' := fun u v a _ => h u v (by omega)
theorem CFr.tr {M M1 M2 : Mem} (h : CFr M M1) (h2 : CFr M1 M2) : CFr M M2 := fun u v a b => (h2 u v a b).trans (h u v a b)
theorem CFr.up {M : Mem} {a b : Nat} {x : Int} (h : RdC a ∨ (a = 159 ∧ 4 ≤ b ∧ b ≤ 7)) : CFr M (up M a b x) := fun u v q1 q2 => up_ne (fun z => by
  rw [← z.1, ← z.2] at h
  rcases h with h | h
  · exact q2 h
  · exact q1 h)
theorem TRs.up {M : Mem} {B : Nat → Int} {e : Nat} {s : Tp} (h : TRs M B e s) {a b : Nat} {x : Int} (hab : ¬ (a = 159 ∧ 2 ≤ b ∧ b ≤ 6) ∧ a ≠ 160) : TRs (up M a b x) B e s := h.kept (fun v h1 h2 => up_ne (by omega)) (fun i => up_ne (by omega))
theorem nu_no {B : Nat → Int} {e : Nat} {lo hi : Int} {s : Tp} (h : ¬ s.2.2.1 = 0) : nuT B e lo hi s = s := by unfold nuT; rw [if_neg h]
theorem sk_nu {B : Nat → Int} {e : Nat} {lo hi : Int} {s : Tp} (h : s.2.2.1 = 0) (hp : s.1 ≤ e) : nuT B e lo hi (sk cBl B e s.1, s.2) = nuT B e lo hi s ∧ nuV B e (sk cBl B e s.1, s.2) = nuV B e s := by
  have id1 := sk_id (c := cBl) (B := B) hp
  constructor
  · unfold nuT
    show (if s.2.2.1 = 0 then _ else _) = (if s.2.2.1 = 0 then _ else _)
    rw [if_pos h, if_pos h]
    show (sk cDg B e (sk cBl B e (sk cBl B e s.1)), sk cBl B e (sk cBl B e s.1), _, _) = _
    rw [id1]
  · unfold nuV
    show dgV B (sk cBl B e (sk cBl B e s.1)) (sk cDg B e (sk cBl B e (sk cBl B e s.1)) - sk cBl B e (sk cBl B e s.1)) = _
    rw [id1]
/-- a text's state up to where it stands once there is a fault -/
theorem TRs.any {M : Mem} {B : Nat → Int} {e : Nat} {s s2 : Tp} (h : TRs M B e s) (hf : ¬ s.2.2.1 = 0) (h2 : s2.2.2 = s.2.2) : TRs M B e s2 := by
  obtain ⟨p, tx, hp⟩ := h
  refine ⟨p, by rw [h2]; exact tx, fun z => ?_⟩
  rw [h2] at z
  exact absurd z hf
