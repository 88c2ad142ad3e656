/-! A SITTING, abstractly: σ 0 who holds a thing, σ 1 by which lending, σ 2 strength, σ 3 the minute of being spent -/
def nL (Ab : Mem) : Nat := (Ab 10 5).toNat
def LoanOK (Ab : Mem) (b : Nat) (n : Int) : Prop := (0 ≤ n ∧ n ≤ 20) ∧ ∀ i, i < n.toNat → (0 ≤ Ab b i ∧ Ab b i < Ab 10 2) ∧ (0 ≤ Ab (b + 1) i ∧ Ab (b + 1) i < Ab 10 1) ∧ (Ab (b + 1) i ≠ Ab 0 (Ab b i).toNat) ∧ (0 ≤ Ab (b + 2) i ∧ Ab (b + 2) i ≤ 119) ∧ (Ab (b + 2) i < Ab (b + 3) i ∧ Ab (b + 3) i ≤ 120)
def LoanRel (M : Mem) (k : Nat) (Ab : Mem) (b : Nat) (n : Int) : Prop := M k 0 = n ∧ ∀ i, i < n.toNat → M (k + 1) i = Ab b i ∧ M (k + 2) i = Ab (b + 1) i ∧ M (k + 3) i = Ab (b + 2) i ∧ M (k + 4) i = Ab (b + 3) i
theorem LoanRel.kept {M M' : Mem} {k : Nat} {Ab : Mem} {b : Nat} {n : Int} (h : LoanRel M k Ab b n) (e : ∀ u v, k ≤ u → u ≤ k + 4 → M' u v = M u v) : LoanRel M' k Ab b n := by
  refine ⟨by rw [e k 0 (by omega) (by omega)]; exact h.1, fun i hi => ?_⟩
  rw [e _ _ (by omega) (by omega), e _ _ (by omega) (by omega), e _ _ (by omega) (by omega), e _ _ (by omega) (by omega)]
  exact h.2 i hi
def hm (Ab σ : Mem) (t : Nat) : Int := if σ 3 (Ab 0 t).toNat = -1 then Ab 0 t else -1
def sA (Ab : Mem) (wo m : Int) (σ : Mem) : Mem := fun c i => if c = 0 then (if σ 0 i = -2 ∧ thC Ab wo i = m then hm Ab σ i else σ 0 i) else σ c i
def sB (Ab : Mem) (tm : Int) (σ : Mem) : Mem := fun c i => if 0 ≤ σ 1 i ∧ Ab 14 (σ 1 i).toNat = tm then (if c = 0 then hm Ab σ i else if c = 1 then -1 else σ c i) else σ c i
def sB' (Ab : Mem) (tm : Int) (σ : Mem) : Mem := fun c i => if c = 0 ∨ c = 1 then sB Ab tm σ c i else σ c i
def sC (Ab : Mem) (tm : Int) (σ : Mem) : Nat → Mem
  | 0 => σ
  | i + 1 => if Ab 13 i = tm ∧ sC Ab tm σ i 0 (Ab 11 i).toNat = Ab 0 (Ab 11 i).toNat ∧ sC Ab tm σ i 3 (Ab 12 i).toNat = -1 then up (up (sC Ab tm σ i) 0 (Ab 11 i).toNat (Ab 12 i)) 1 (Ab 11 i).toNat (i : Int) else sC Ab tm σ i
def ldF (Ab σ : Mem) (p : Int) : Int := sumN (fun t => if σ 0 t = p then Ab 1 t else 0) (nT Ab)
noncomputable def sD (Ab : Mem) (m : Int) (σ : Mem) : Mem := fun c i =>
  if c = 0 then (if 0 ≤ σ 0 i ∧ (σ 3 (σ 0 i).toNat = -1 ∧ σ 2 (σ 0 i).toNat - ldF Ab σ (σ 0 i) < 0) then -1 else σ 0 i)
  else if c = 1 then (if 0 ≤ σ 0 i ∧ (σ 3 (σ 0 i).toNat = -1 ∧ σ 2 (σ 0 i).toNat - ldF Ab σ (σ 0 i) < 0) then -1 else σ 1 i)
  else if c = 2 then σ 2 i - ldF Ab σ (i : Int)
  else if c = 3 then (if σ 3 i = -1 ∧ σ 2 i - ldF Ab σ (i : Int) < 0 then m else σ 3 i)
  else σ c i
noncomputable def stp (Ab : Mem) (wo m tm : Int) (σ : Mem) : Mem := sD Ab m (sC Ab tm (sB' Ab tm (sA Ab wo m σ)) (nL Ab))
/-- which lending the class remembers: the one by which a thing is away, or a stale one of a thing on the floor -/
def lnt (l b h : Int) : Prop := l = b ∨ (b = -1 ∧ h = -1 ∧ 0 ≤ l)
def SitRel (M : Mem) (k : Nat) (Ab : Mem) (wo : Int) (σ : Mem) : Prop :=
  (∀ t, t < nT Ab → M (k + 17) t = σ 0 t ∧ M (k + 18) t = thC Ab wo t ∧ lnt (M (k + 19) t) (σ 1 t) (σ 0 t)) ∧ ∀ p, p < nP Ab → M (k + 21) p = σ 2 p ∧ M (k + 22) p = σ 3 p
/-- a sitting's plan and lendings -/
def SP (M : Mem) (k : Nat) (Ab : Mem) : Prop := SitAt k ∧ ((M k 0).toNat = 3 ∨ (M k 0).toNat = 14) ∧ ((M k 1).toNat = 25 ∨ (M k 1).toNat = 30) ∧ PlanRel M (M k 0).toNat Ab ∧ LoanRel M (M k 1).toNat Ab 11 (Ab 10 5) ∧ HallOK Ab ∧ LoanOK Ab 11 (Ab 10 5)
theorem SP.kept {M M' : Mem} {k : Nat} {Ab : Mem} (h : SP M k Ab) (e : ∀ u v, u < k + 17 → M' u v = M u v) : SP M' k Ab := by
  obtain ⟨h1, h2, h3, h4, h5, h6, h7⟩ := h
  have e0 := e k 0 (by omega)
  have e1 := e k 1 (by omega)
  have hk : 42 ≤ k := by rcases h1 with rfl | rfl | rfl <;> omega
  refine ⟨h1, by rw [e0]; exact h2, by rw [e1]; exact h3, by rw [e0]; exact h4.kept (fun u v q1 q2 => e u v (by omega)), by rw [e1]; exact h5.kept (fun u v q1 q2 => e u v (by omega)), h6, h7⟩
theorem SP.pl {M : Mem} {k : Nat} {Ab : Mem} (h : SP M k Ab) : PL M (M k 0).toNat Ab := ⟨by rcases h.2.1 with q | q <;> rw [q] <;> simp [PlanAt], h.2.2.2.1, h.2.2.2.2.2.1⟩
theorem SP.lo {M : Mem} {k : Nat} {Ab : Mem} (h : SP M k Ab) : LoanAt (M k 1).toNat := by rcases h.2.2.1 with q | q <;> rw [q] <;> simp [LoanAt]
theorem si_ge {k : Nat} (h : SitAt k) : 42 ≤ k ∧ k ≤ 93 := by rcases h with rfl | rfl | rfl <;> omega
def SigOK (Ab σ : Mem) : Prop :=
  (∀ t, t < nT Ab → σ 0 t = -2 ∨ σ 0 t = -1 ∨ (0 ≤ σ 0 t ∧ σ 0 t < Ab 10 1 ∧ σ 3 (σ 0 t).toNat = -1)) ∧
  (∀ t, t < nT Ab → σ 1 t = -1 ∨ ∃ j, j < nL Ab ∧ σ 1 t = (j : Int) ∧ Ab 11 j = (t : Int) ∧ σ 0 t = Ab 12 j) ∧
  (∀ p, p < nP Ab → (σ 3 p = -1 → 0 ≤ σ 2 p) ∧ (-1386 ≤ σ 2 p ∧ σ 2 p ≤ 5940) ∧ -1 ≤ σ 3 p ∧ σ 3 p < 1000)
def G_X8_isSpent : FN := fun as M Q => match as with
  | [.inr (.inl k), .inl p] => (SitAt k ∧ 0 ≤ p ∧ p < 10) ∧ bq (¬ M (k + 22) p.toNat = -1) Q M
  | _ => False
def G_X8_homeOf : FN := fun as M Q => match as with
  | [.inr (.inl k), .inl t] => ∃ Ab, SP M k Ab ∧ (0 ≤ t ∧ t < Ab 10 2) ∧ Q (some (vI (if M (k + 22) (Ab 0 t.toNat).toNat = -1 then Ab 0 t.toNat else -1))) M
  | _ => False
def G_X8_comeIn : FN := fun as M Q => match as with
  | [.inr (.inl k), .inl m] => ∃ Ab wo σ, SP M k Ab ∧ SitRel M k Ab wo σ ∧ ∀ M' : Mem, (∀ u v, u ≠ k + 17 → M' u v = M u v) → SitRel M' k Ab wo (sA Ab wo m σ) → Q none M'
  | _ => False
def G_X8_giveBack : FN := fun as M Q => match as with
  | [.inr (.inl k), .inl tm] => ∃ Ab wo σ, SP M k Ab ∧ SitRel M k Ab wo σ ∧ SigOK Ab σ ∧ ∀ M' : Mem, (∀ u v, u ≠ k + 17 → u ≠ k + 19 → M' u v = M u v) → SitRel M' k Ab wo (sB' Ab tm σ) → Q none M'
  | _ => False
def G_X8_giveAway : FN := fun as M Q => match as with
  | [.inr (.inl k), .inl tm] => ∃ Ab wo σ, SP M k Ab ∧ SitRel M k Ab wo σ ∧ ∀ M' : Mem, (∀ u v, u ≠ k + 17 → u ≠ k + 19 → M' u v = M u v) → SitRel M' k Ab wo (sC Ab tm σ (nL Ab)) → Q none M'
  | _ => False
def b_X8_isSpent_0 : List AT := [tx_il 1, tx_ifz r_lt 24, tx_il 1, tx_ic 10, tx_cmp r_ge 24, tx_al 0, tx_gr 8 22, tx_il 1, tx_ia, tx_ic (-1), tx_cmp r_eq 24, tx_ic 1, tx_fall 25]
def b_X8_isSpent_24 : List AT := [tx_ic 0, tx_fall 25]
def b_X8_isSpent_25 : List AT := [tx_rz]
def R_X8_isSpent (J : JT) (Q : QT) : Prop := (∀ ls st M, wpl J Q b_X8_isSpent_0 ls st M → J 0 ls st M) ∧ (∀ ls st M, wpl J Q b_X8_isSpent_24 ls st M → J 24 ls st M) ∧ (∀ ls st M, wpl J Q b_X8_isSpent_25 ls st M → J 25 ls st M)
theorem R_X8_isSpent_0 {J : JT} {Q : QT} (R : R_X8_isSpent J Q) {ls : Ls} {st : St} {M : Mem} (h : wpl J Q b_X8_isSpent_0 ls st M) : J 0 ls st M := R.1 ls st M h
theorem R_X8_isSpent_24 {J : JT} {Q : QT} (R : R_X8_isSpent J Q) {ls : Ls} {st : St} {M : Mem} (h : wpl J Q b_X8_isSpent_24 ls st M) : J 24 ls st M := R.2.1 ls st M h
theorem R_X8_isSpent_25 {J : JT} {Q : QT} (R : R_X8_isSpent J Q) {ls : Ls} {st : St} {M : Mem} (h : wpl J Q b_X8_isSpent_25 ls st M) : J 25 ls st M := R.2.2 ls st M h
def b_X8_homeOf_0 : List AT := [tx_al 0, tx_al 0, tx_gm 8 0, tx_gr 6 3, tx_il 1, tx_ia, tx_callv 8 (nf G_X8_isSpent) 1, tx_ifz r_eq 20, tx_ic (-1), tx_fall 29]
def b_X8_homeOf_20 : List AT := [tx_al 0, tx_gm 8 0, tx_gr 6 3, tx_il 1, tx_ia, tx_fall 29]
def b_X8_homeOf_29 : List AT := [tx_ri]
def R_X8_homeOf (J : JT) (Q : QT) : Prop := (∀ ls st M, wpl J Q b_X8_homeOf_0 ls st M → J 0 ls st M) ∧ (∀ ls st M, wpl J Q b_X8_homeOf_20 ls st M → J 20 ls st M) ∧ (∀ ls st M, wpl J Q b_X8_homeOf_29 ls st M → J 29 ls st M)
theorem R_X8_homeOf_0 {J : JT} {Q : QT} (R : R_X8_homeOf J Q) {ls : Ls} {st : St} {M : Mem} (h : wpl J Q b_X8_homeOf_0 ls st M) : J 0 ls st M := R.1 ls st M h
theorem R_X8_homeOf_20 {J : JT} {Q : QT} (R : R_X8_homeOf J Q) {ls : Ls} {st : St} {M : Mem} (h : wpl J Q b_X8_homeOf_20 ls st M) : J 20 ls st M := R.2.1 ls st M h
theorem R_X8_homeOf_29 {J : JT} {Q : QT} (R : R_X8_homeOf J Q) {ls : Ls} {st : St} {M : Mem} (h : wpl J Q b_X8_homeOf_29 ls st M) : J 29 ls st M := R.2.2 ls st M h
def b_X8_comeIn_0 : List AT := [tx_ic 0, tx_is 2, tx_fall 2]
def b_X8_comeIn_2 : List AT := [tx_il 2, tx_al 0, tx_gm 8 0, tx_gi 6 3, tx_cmp r_ge 51, tx_al 0, tx_gr 8 17, tx_il 2, tx_ia, tx_ic (-2), tx_cmp r_ne 45, tx_al 0, tx_gr 8 18, tx_il 2, tx_ia, tx_il 1, tx_cmp r_ne 45, tx_al 0, tx_gr 8 17, tx_il 2, tx_al 0, tx_il 2, tx_callv 8 (nf G_X8_homeOf) 1, tx_iax, tx_fall 45]
def b_X8_comeIn_45 : List AT := [tx_inc 2 1, tx_fall 2]
def b_X8_comeIn_51 : List AT := [tx_rv]
def R_X8_comeIn (J : JT) (Q : QT) : Prop := (∀ ls st M, wpl J Q b_X8_comeIn_0 ls st M → J 0 ls st M) ∧ (∀ ls st M, wpl J Q b_X8_comeIn_2 ls st M → J 2 ls st M) ∧ (∀ ls st M, wpl J Q b_X8_comeIn_45 ls st M → J 45 ls st M) ∧ (∀ ls st M, wpl J Q b_X8_comeIn_51 ls st M → J 51 ls st M)
theorem R_X8_comeIn_0 {J : JT} {Q : QT} (R : R_X8_comeIn J Q) {ls : Ls} {st : St} {M : Mem} (h : wpl J Q b_X8_comeIn_0 ls st M) : J 0 ls st M := R.1 ls st M h
theorem R_X8_comeIn_2 {J : JT} {Q : QT} (R : R_X8_comeIn J Q) {ls : Ls} {st : St} {M : Mem} (h : wpl J Q b_X8_comeIn_2 ls st M) : J 2 ls st M := R.2.1 ls st M h
theorem R_X8_comeIn_45 {J : JT} {Q : QT} (R : R_X8_comeIn J Q) {ls : Ls} {st : St} {M : Mem} (h : wpl J Q b_X8_comeIn_45 ls st M) : J 45 ls st M := R.2.2.1 ls st M h
theorem R_X8_comeIn_51 {J : JT} {Q : QT} (R : R_X8_comeIn J Q) {ls : Ls} {st : St} {M : Mem} (h : wpl J Q b_X8_comeIn_51 ls st M) : J 51 ls st M := R.2.2.2 ls st M h
def b_X8_giveBack_0 : List AT := [tx_ic 0, tx_is 2, tx_fall 2]
def b_X8_giveBack_2 : List AT := [tx_il 2, tx_al 0, tx_gm 8 1, tx_gi 5 0, tx_cmp r_ge 99, tx_al 0, tx_gm 8 1, tx_gr 5 1, tx_il 2, tx_ia, tx_is 3, tx_al 0, tx_gm 8 1, tx_gr 5 4, tx_il 2, tx_ia, tx_il 1, tx_cmp r_ne 93, tx_al 0, tx_gm 8 0, tx_il 3, tx_callv 6 (nf G_X6_hasThing) 1, tx_ifz r_eq 93, tx_al 0, tx_gr 8 19, tx_il 3, tx_ia, tx_il 2, tx_cmp r_ne 93, tx_al 0, tx_gr 8 19, tx_il 3, tx_ic (-1), tx_iax, tx_al 0, tx_gr 8 17, tx_il 3, tx_ia, tx_al 0, tx_gm 8 1, tx_gr 5 2, tx_il 2, tx_ia, tx_cmp r_ne 93, tx_al 0, tx_gr 8 17, tx_il 3, tx_al 0, tx_il 3, tx_callv 8 (nf G_X8_homeOf) 1, tx_iax, tx_fall 93]
def b_X8_giveBack_93 : List AT := [tx_inc 2 1, tx_fall 2]
def b_X8_giveBack_99 : List AT := [tx_rv]
def R_X8_giveBack (J : JT) (Q : QT) : Prop := (∀ ls st M, wpl J Q b_X8_giveBack_0 ls st M → J 0 ls st M) ∧ (∀ ls st M, wpl J Q b_X8_giveBack_2 ls st M → J 2 ls st M) ∧ (∀ ls st M, wpl J Q b_X8_giveBack_93 ls st M → J 93 ls st M) ∧ (∀ ls st M, wpl J Q b_X8_giveBack_99 ls st M → J 99 ls st M)
theorem R_X8_giveBack_0 {J : JT} {Q : QT} (R : R_X8_giveBack J Q) {ls : Ls} {st : St} {M : Mem} (h : wpl J Q b_X8_giveBack_0 ls st M) : J 0 ls st M := R.1 ls st M h
theorem R_X8_giveBack_2 {J : JT} {Q : QT} (R : R_X8_giveBack J Q) {ls : Ls} {st : St} {M : Mem} (h : wpl J Q b_X8_giveBack_2 ls st M) : J 2 ls st M := R.2.1 ls st M h
theorem R_X8_giveBack_93 {J : JT} {Q : QT} (R : R_X8_giveBack J Q) {ls : Ls} {st : St} {M : Mem} (h : wpl J Q b_X8_giveBack_93 ls st M) : J 93 ls st M := R.2.2.1 ls st M h
theorem R_X8_giveBack_99 {J : JT} {Q : QT} (R : R_X8_giveBack J Q) {ls : Ls} {st : St} {M : Mem} (h : wpl J Q b_X8_giveBack_99 ls st M) : J 99 ls st M := R.2.2.2 ls st M h
def b_X8_giveAway_0 : List AT := [tx_ic 0, tx_is 2, tx_fall 2]
def b_X8_giveAway_2 : List AT := [tx_il 2, tx_al 0, tx_gm 8 1, tx_gi 5 0, tx_cmp r_ge 109, tx_al 0, tx_gm 8 1, tx_gr 5 1, tx_il 2, tx_ia, tx_is 3, tx_al 0, tx_gm 8 1, tx_gr 5 3, tx_il 2, tx_ia, tx_il 1, tx_cmp r_ne 103, tx_al 0, tx_gm 8 0, tx_il 3, tx_callv 6 (nf G_X6_hasThing) 1, tx_ifz r_eq 103, tx_al 0, tx_gr 8 17, tx_il 3, tx_ia, tx_al 0, tx_gm 8 0, tx_gr 6 3, tx_il 3, tx_ia, tx_cmp r_ne 103, tx_al 0, tx_al 0, tx_gm 8 1, tx_gr 5 2, tx_il 2, tx_ia, tx_callv 8 (nf G_X8_isSpent) 1, tx_ifz r_ne 103, tx_al 0, tx_gr 8 17, tx_il 3, tx_al 0, tx_gm 8 1, tx_gr 5 2, tx_il 2, tx_ia, tx_iax, tx_al 0, tx_gr 8 19, tx_il 3, tx_il 2, tx_iax, tx_fall 103]
def b_X8_giveAway_103 : List AT := [tx_inc 2 1, tx_fall 2]
def b_X8_giveAway_109 : List AT := [tx_rv]
def R_X8_giveAway (J : JT) (Q : QT) : Prop := (∀ ls st M, wpl J Q b_X8_giveAway_0 ls st M → J 0 ls st M) ∧ (∀ ls st M, wpl J Q b_X8_giveAway_2 ls st M → J 2 ls st M) ∧ (∀ ls st M, wpl J Q b_X8_giveAway_103 ls st M → J 103 ls st M) ∧ (∀ ls st M, wpl J Q b_X8_giveAway_109 ls st M → J 109 ls st M)
theorem R_X8_giveAway_0 {J : JT} {Q : QT} (R : R_X8_giveAway J Q) {ls : Ls} {st : St} {M : Mem} (h : wpl J Q b_X8_giveAway_0 ls st M) : J 0 ls st M := R.1 ls st M h
theorem R_X8_giveAway_2 {J : JT} {Q : QT} (R : R_X8_giveAway J Q) {ls : Ls} {st : St} {M : Mem} (h : wpl J Q b_X8_giveAway_2 ls st M) : J 2 ls st M := R.2.1 ls st M h
theorem R_X8_giveAway_103 {J : JT} {Q : QT} (R : R_X8_giveAway J Q) {ls : Ls} {st : St} {M : Mem} (h : wpl J Q b_X8_giveAway_103 ls st M) : J 103 ls st M := R.2.2.1 ls st M h
theorem R_X8_giveAway_109 {J : JT} {Q : QT} (R : R_X8_giveAway J Q) {ls : Ls} {st : St} {M : Mem} (h : wpl J Q b_X8_giveAway_109 ls st M) : J 109 ls st M := R.2.2.2 ls st M h
theorem P_X8_isSpent {J : JT} {Q : QT} (R : R_X8_isSpent J Q) {as : List Vl} {M : Mem} (h : nf G_X8_isSpent as M Q) : (enL as).length ≤ 2 ∧ J 0 (padL 2 (enL as)) [] M := by
  unfold nf G_X8_isSpent at h
  split at h
  · rename_i k p
    obtain ⟨⟨hk, p0, p1⟩, hQ⟩ := h
    refine ⟨Nat.le_of_ble_eq_true rfl, R_X8_isSpent_0 R (bf (show ¬ p < 0 by omega) (bf (show ¬ (10 : Int) ≤ p by omega) (an (si_ob hk) (an (ak_of (si_10 hk (by decide) (by decide)) p0 (by omega)) (br (fun q => R_X8_isSpent_24 R (R_X8_isSpent_25 R (an (Or.inl rfl) (hQ.2 (fun z => z q))))) (fun q => R_X8_isSpent_25 R (an (Or.inr rfl) (hQ.1 q))))))))⟩
  · exact h.elim
theorem P_X8_homeOf {J : JT} {Q : QT} (R : R_X8_homeOf J Q) {as : List Vl} {M : Mem} (h : nf G_X8_homeOf as M Q) : (enL as).length ≤ 2 ∧ J 0 (padL 2 (enL as)) [] M := by
  unfold nf G_X8_homeOf at h
  split at h
  · rename_i k t
    obtain ⟨Ab, hs, ⟨t0, t1⟩, hQ⟩ := h
    obtain ⟨hk, hp, ho⟩ := hs.pl
    have ht : t.toNat < nT Ab := by unfold nT; omega
    obtain ⟨n1, n2⟩ := nT_le ho
    obtain ⟨q1, q2⟩ := nP_le ho
    have e1 := (hp.2.2.2.2.2.2.1 _ ht).1
    have h1 := (ho.2.2.2.2.2.2.1 _ ht).1
    have a3 : AK 1 ((M k 0).toNat + 3) t := ak_of (pl_3 hk) t0 (by omega)
    refine ⟨Nat.le_of_ble_eq_true rfl, R_X8_homeOf_0 R (an (si_ob hs.1) (an (pl_ob hk) (an a3 (an (si_ob hs.1) ?_))))⟩
    show (SitAt k ∧ 0 ≤ M ((M k 0).toNat + 3) t.toNat ∧ M ((M k 0).toNat + 3) t.toNat < 10) ∧ _
    rw [e1]
    refine ⟨⟨hs.1, by omega, by omega⟩, fun q => ?_, fun q => ?_⟩
    · rw [if_neg q] at hQ
      exact bf (by decide) (R_X8_homeOf_29 R hQ)
    · rw [if_pos (Classical.not_not.mp q)] at hQ
      refine bt rfl (R_X8_homeOf_20 R (an (si_ob hs.1) (an (pl_ob hk) (an a3 (R_X8_homeOf_29 R ?_)))))
      show Q (.inl (some (vI (M ((M k 0).toNat + 3) t.toNat)))) M
      rw [e1]
      exact hQ
  · exact h.elim
theorem P_X8_comeIn {J : JT} {Q : QT} (R : R_X8_comeIn J Q) {as : List Vl} {M : Mem} (h : nf G_X8_comeIn as M Q) : (enL as).length ≤ 3 ∧ J 0 (padL 3 (enL as)) [] M := by
  unfold nf G_X8_comeIn at h
  split at h
  · rename_i k m
    obtain ⟨Ab, wo, σ, hs, hr, hQ⟩ := h
    obtain ⟨g1, g2⟩ := si_ge hs.1
    have key : ∀ i, i ≤ nT Ab → ∀ (x : Int) (M' : Mem), x = (i : Int) → (∀ u v, u ≠ k + 17 → M' u v = M u v) → (∀ t, t < nT Ab → M' (k + 17) t = if t < i then sA Ab wo m σ 0 t else σ 0 t) → J 2 [some (vR k), some (vI m), some (vI x)] [] M' := by
      have step : ∀ M' : Mem, (∀ u v, u ≠ k + 17 → M' u v = M u v) → SP M' k Ab := fun M' hf => hs.kept (fun u v hu => hf u v (by omega))
      obtain ⟨n1, n2⟩ := nT_le hs.pl.2.2
      refine dn ?_ ?_
      · intro x M' hx hf hh
        obtain ⟨hk, hp, ho⟩ := (step M' hf).pl
        refine R_X8_comeIn_2 R (an (si_ob hs.1) (an (pl_ob hk) (bt (show M' (M' k 0).toNat 3 ≤ x by rw [hp.2.1]; omega) (R_X8_comeIn_51 R (hQ M' hf ?_)))))
        refine ⟨fun t ht => ?_, fun p hp => ?_⟩
        · obtain ⟨r1, r2, r3⟩ := hr.1 t ht
          rw [hf (k + 18) t (by omega), hf (k + 19) t (by omega), hh t ht, if_pos ht]
          refine ⟨rfl, r2, ?_⟩
          show lnt _ (σ 1 t) (if σ 0 t = -2 ∧ thC Ab wo t = m then hm Ab σ t else σ 0 t)
          split
          · rename_i hc
            rcases r3 with r3 | r3
            · exact Or.inl r3
            · omega
          · exact r3
        · rw [hf (k + 21) _ (by omega), hf (k + 22) _ (by omega)]
          exact hr.2 p hp
      · intro i hi ih x M' hx hf hh
        obtain ⟨hk, hp, ho⟩ := (step M' hf).pl
        obtain ⟨r1, r2, r3⟩ := hr.1 i hi
        subst hx
        have e1 : M' (k + 17) i = σ 0 i := by rw [hh i hi, if_neg (by omega)]
        have e2 : M' (k + 18) i = thC Ab wo i := by rw [hf _ _ (by omega)]; exact r2
        have a17 : AK 1 (k + 17) (i : Int) := ak_of (si_14 hs.1 (by decide) (by decide)) (by omega) (by omega)
        have skip : ¬ (σ 0 i = -2 ∧ thC Ab wo i = m) → J 45 [some (vR k), some (vI m), some (vI (i : Int))] [] M' := by
          intro hc
          refine R_X8_comeIn_45 R (ih _ _ (wn rfl (by omega)) hf (fun t ht => ?_))
          rw [hh t ht]
          by_cases e : t = i
          · subst e
            rw [if_neg (by omega), if_pos (by omega)]
            show _ = (if σ 0 t = -2 ∧ thC Ab wo t = m then hm Ab σ t else σ 0 t)
            rw [if_neg hc]
          · by_cases e2 : t < i
            · rw [if_pos e2, if_pos (by omega)]
            · rw [if_neg e2, if_neg (by omega)]
        refine R_X8_comeIn_2 R (an (si_ob hs.1) (an (pl_ob hk) (bf (show ¬ M' (M' k 0).toNat 3 ≤ (i : Int) by rw [hp.2.1]; omega) (an (si_ob hs.1) (an a17 (br (fun q => skip (fun z => q (e1.trans z.1))) (fun q => an (si_ob hs.1) (an (ak_of (si_14 hs.1 (by decide) (by decide)) (by omega) (by omega)) (br (fun q2 => skip (fun z => q2 (e2.trans z.2))) (fun q2 => an (si_ob hs.1) (an (si_ob hs.1) ⟨Ab, step M' hf, ⟨by omega, by omega⟩, an a17 (R_X8_comeIn_45 R (ih _ _ (wn rfl (by omega)) (fun u v hu => ?_) (fun t ht => ?_)))⟩)))))))))))
        · rw [up_ne (by omega)]; exact hf u v hu
        · have q : σ 0 i = -2 := e1.symm.trans (Classical.not_not.mp q)
          have q2 : thC Ab wo i = m := e2.symm.trans (Classical.not_not.mp q2)
          by_cases e : t = i
          · subst e
            rw [Int.toNat_natCast, up_eq, if_pos (show t < t + 1 by omega)]
            show _ = (if σ 0 t = -2 ∧ thC Ab wo t = m then hm Ab σ t else σ 0 t)
            have o1 := (ho.2.2.2.2.2.2.1 t ht).1
            have e9 : (if σ 0 t = -2 ∧ thC Ab wo t = m then hm Ab σ t else σ 0 t) = hm Ab σ t := if_pos ⟨q, q2⟩
            rw [e9, hf (k + 22) _ (by omega), (hr.2 _ (by unfold nP; omega)).2]
            rfl
          · rw [up_ne (by show ¬ (k + 17 = k + 17 ∧ t = i); omega), hh t ht]
            by_cases e2 : t < i
            · rw [if_pos e2, if_pos (by omega)]
            · rw [if_neg e2, if_neg (by omega)]
    exact ⟨Nat.le_of_ble_eq_true rfl, R_X8_comeIn_0 R (key 0 (Nat.zero_le _) _ _ rfl (fun _ _ _ => rfl) (fun t ht => by rw [if_neg (by omega)]; exact (hr.1 t ht).1))⟩

  · exact h.elim