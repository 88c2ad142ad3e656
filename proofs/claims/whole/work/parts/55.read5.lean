def rmS (c : Bool) (s : Tp) : Tp := if c = true then s else reT 3 s
noncomputable def clM (B : Nat → Int) (e : Nat) (Ab : Mem) (b : Int) (s : Tp) : Mem := if tf (wdP B s.2.1 s.1 0) = true then rpM B e Ab (rmS (!decide (b = 0) && decide (Ab 10 1 < 10)) s) else if tf (wdP B s.2.1 s.1 1) = true then rtM B e Ab 0 (rmS (!decide (b = 0) && decide (Ab 10 2 < 14)) s) else if tf (wdP B s.2.1 s.1 2) = true then rdM B e Ab (rmS (!decide (b = 0) && decide (Ab 10 3 < 3)) s) else if tf (wdP B s.2.1 s.1 3) = true then rtM B e Ab 1 (rmS (!decide (b = 0) && decide (Ab 10 2 < 14)) s) else if tf (wdP B s.2.1 s.1 4) = true then rmM B e Ab (rmS (!decide (b = 0) && decide (Ab 10 4 < 8)) s) else if tf (wdP B s.2.1 s.1 5) = true then rlM B e Ab (rmS (!decide (b = 0)) s) else Ab
noncomputable def clT (B : Nat → Int) (e : Nat) (Ab : Mem) (b : Int) (s : Tp) : Tp := if tf (wdP B s.2.1 s.1 0) = true then nuT B e 1 99 (nuT B e 0 3 (rmS (!decide (b = 0) && decide (Ab 10 1 < 10)) s)) else if tf (wdP B s.2.1 s.1 1) = true then th4 B e Ab 0 (rmS (!decide (b = 0) && decide (Ab 10 2 < 14)) s) else if tf (wdP B s.2.1 s.1 2) = true then nuT B e 1 99 (rmS (!decide (b = 0) && decide (Ab 10 3 < 3)) s) else if tf (wdP B s.2.1 s.1 3) = true then th4 B e Ab 1 (rmS (!decide (b = 0) && decide (Ab 10 2 < 14)) s) else if tf (wdP B s.2.1 s.1 4) = true then mo4 B e Ab (rmS (!decide (b = 0) && decide (Ab 10 4 < 8)) s) else if tf (wdP B s.2.1 s.1 5) = true then nuT B e 0 2 (rmS (!decide (b = 0)) s) else reT 1 s
def G_X6_readClause : FN := fun as M Q => match as with
  | [.inr (.inl k), .inr (.inl tp), .inl b] => ∃ Ab B e s, tp = 1 ∧ (b = 0 ∨ b = 1) ∧ PL M k Ab ∧ TSs M B e s ∧ ∀ M', RF k M M' → PL M' k (clM B e Ab b s) → TSs M' B e (clT B e Ab b s) → Q none M'
  | _ => False
def b_X6_readClause_0 (sx : Nat → Nat) : List AT := [tx_al 1, tx_oc (sx 0), tx_callv 9 (nf (G_X9_wordIs sx)) 1, tx_ifz r_eq 39, tx_al 1, tx_il 2, tx_ifz r_eq 27, tx_al 0, tx_gi 6 0, tx_ic 10, tx_cmp r_ge 27, tx_ic 1, tx_fall 28]
def b_X6_readClause_27 (sx : Nat → Nat) : List AT := [tx_ic 0, tx_fall 28]
def b_X6_readClause_28 (sx : Nat → Nat) : List AT := [tx_call (nf G_X6_needRoom) 2, tx_al 0, tx_al 1, tx_callv 6 (nf G_X6_readPerson) 1, tx_fall 223]
def b_X6_readClause_39 (sx : Nat → Nat) : List AT := [tx_al 1, tx_oc (sx 1), tx_callv 9 (nf (G_X9_wordIs sx)) 1, tx_ifz r_eq 79, tx_al 1, tx_il 2, tx_ifz r_eq 66, tx_al 0, tx_gi 6 3, tx_ic 14, tx_cmp r_ge 66, tx_ic 1, tx_fall 67]
def b_X6_readClause_66 (sx : Nat → Nat) : List AT := [tx_ic 0, tx_fall 67]
def b_X6_readClause_67 (sx : Nat → Nat) : List AT := [tx_call (nf G_X6_needRoom) 2, tx_al 0, tx_al 1, tx_ic 0, tx_callv 6 (nf G_X6_readThing) 2, tx_fall 223]
def b_X6_readClause_79 (sx : Nat → Nat) : List AT := [tx_al 1, tx_oc (sx 2), tx_callv 9 (nf (G_X9_wordIs sx)) 1, tx_ifz r_eq 117, tx_al 1, tx_il 2, tx_ifz r_eq 105, tx_al 0, tx_gi 6 8, tx_ic 3, tx_cmp r_ge 105, tx_ic 1, tx_fall 106]
def b_X6_readClause_105 (sx : Nat → Nat) : List AT := [tx_ic 0, tx_fall 106]
def b_X6_readClause_106 (sx : Nat → Nat) : List AT := [tx_call (nf G_X6_needRoom) 2, tx_al 0, tx_al 1, tx_callv 6 (nf G_X6_readDoor) 1, tx_fall 223]
def b_X6_readClause_117 (sx : Nat → Nat) : List AT := [tx_al 1, tx_oc (sx 3), tx_callv 9 (nf (G_X9_wordIs sx)) 1, tx_ifz r_eq 157, tx_al 1, tx_il 2, tx_ifz r_eq 144, tx_al 0, tx_gi 6 3, tx_ic 14, tx_cmp r_ge 144, tx_ic 1, tx_fall 145]
def b_X6_readClause_144 (sx : Nat → Nat) : List AT := [tx_ic 0, tx_fall 145]
def b_X6_readClause_145 (sx : Nat → Nat) : List AT := [tx_call (nf G_X6_needRoom) 2, tx_al 0, tx_al 1, tx_ic 1, tx_callv 6 (nf G_X6_readThing) 2, tx_fall 223]
def b_X6_readClause_157 (sx : Nat → Nat) : List AT := [tx_al 1, tx_oc (sx 4), tx_callv 9 (nf (G_X9_wordIs sx)) 1, tx_ifz r_eq 196, tx_al 1, tx_il 2, tx_ifz r_eq 184, tx_al 0, tx_gi 6 10, tx_ic 8, tx_cmp r_ge 184, tx_ic 1, tx_fall 185]
def b_X6_readClause_184 (sx : Nat → Nat) : List AT := [tx_ic 0, tx_fall 185]
def b_X6_readClause_185 (sx : Nat → Nat) : List AT := [tx_call (nf G_X6_needRoom) 2, tx_al 0, tx_al 1, tx_callv 6 (nf G_X6_readMotion) 1, tx_fall 223]
def b_X6_readClause_196 (sx : Nat → Nat) : List AT := [tx_al 1, tx_oc (sx 5), tx_callv 9 (nf (G_X9_wordIs sx)) 1, tx_ifz r_eq 218, tx_al 1, tx_il 2, tx_call (nf G_X6_needRoom) 2, tx_al 0, tx_al 1, tx_callv 6 (nf G_X6_readLaw) 1, tx_fall 223]
def b_X6_readClause_218 (sx : Nat → Nat) : List AT := [tx_al 1, tx_ic 1, tx_callv 9 (nf G_X9_refuse) 1, tx_fall 223]
def b_X6_readClause_223 (sx : Nat → Nat) : List AT := [tx_rv]
def R_X6_readClause (sx : Nat → Nat) (J : JT) (Q : QT) : Prop := (∀ ls st M, wpl J Q (b_X6_readClause_0 sx) ls st M → J 0 ls st M) ∧ (∀ ls st M, wpl J Q (b_X6_readClause_27 sx) ls st M → J 27 ls st M) ∧ (∀ ls st M, wpl J Q (b_X6_readClause_28 sx) ls st M → J 28 ls st M) ∧ (∀ ls st M, wpl J Q (b_X6_readClause_39 sx) ls st M → J 39 ls st M) ∧ (∀ ls st M, wpl J Q (b_X6_readClause_66 sx) ls st M → J 66 ls st M) ∧ (∀ ls st M, wpl J Q (b_X6_readClause_67 sx) ls st M → J 67 ls st M) ∧ (∀ ls st M, wpl J Q (b_X6_readClause_79 sx) ls st M → J 79 ls st M) ∧ (∀ ls st M, wpl J Q (b_X6_readClause_105 sx) ls st M → J 105 ls st M) ∧ (∀ ls st M, wpl J Q (b_X6_readClause_106 sx) ls st M → J 106 ls st M) ∧ (∀ ls st M, wpl J Q (b_X6_readClause_117 sx) ls st M → J 117 ls st M) ∧ (∀ ls st M, wpl J Q (b_X6_readClause_144 sx) ls st M → J 144 ls st M) ∧ (∀ ls st M, wpl J Q (b_X6_readClause_145 sx) ls st M → J 145 ls st M) ∧ (∀ ls st M, wpl J Q (b_X6_readClause_157 sx) ls st M → J 157 ls st M) ∧ (∀ ls st M, wpl J Q (b_X6_readClause_184 sx) ls st M → J 184 ls st M) ∧ (∀ ls st M, wpl J Q (b_X6_readClause_185 sx) ls st M → J 185 ls st M) ∧ (∀ ls st M, wpl J Q (b_X6_readClause_196 sx) ls st M → J 196 ls st M) ∧ (∀ ls st M, wpl J Q (b_X6_readClause_218 sx) ls st M → J 218 ls st M) ∧ (∀ ls st M, wpl J Q (b_X6_readClause_223 sx) ls st M → J 223 ls st M)
theorem R_X6_readClause_0 {sx : Nat → Nat} {J : JT} {Q : QT} (R : R_X6_readClause sx J Q) {ls : Ls} {st : St} {M : Mem} (h : wpl J Q (b_X6_readClause_0 sx) ls st M) : J 0 ls st M := R.1 ls st M h
theorem R_X6_readClause_27 {sx : Nat → Nat} {J : JT} {Q : QT} (R : R_X6_readClause sx J Q) {ls : Ls} {st : St} {M : Mem} (h : wpl J Q (b_X6_readClause_27 sx) ls st M) : J 27 ls st M := R.2.1 ls st M h
theorem R_X6_readClause_28 {sx : Nat → Nat} {J : JT} {Q : QT} (R : R_X6_readClause sx J Q) {ls : Ls} {st : St} {M : Mem} (h : wpl J Q (b_X6_readClause_28 sx) ls st M) : J 28 ls st M := R.2.2.1 ls st M h
theorem R_X6_readClause_39 {sx : Nat → Nat} {J : JT} {Q : QT} (R : R_X6_readClause sx J Q) {ls : Ls} {st : St} {M : Mem} (h : wpl J Q (b_X6_readClause_39 sx) ls st M) : J 39 ls st M := R.2.2.2.1 ls st M h
theorem R_X6_readClause_66 {sx : Nat → Nat} {J : JT} {Q : QT} (R : R_X6_readClause sx J Q) {ls : Ls} {st : St} {M : Mem} (h : wpl J Q (b_X6_readClause_66 sx) ls st M) : J 66 ls st M := R.2.2.2.2.1 ls st M h
theorem R_X6_readClause_67 {sx : Nat → Nat} {J : JT} {Q : QT} (R : R_X6_readClause sx J Q) {ls : Ls} {st : St} {M : Mem} (h : wpl J Q (b_X6_readClause_67 sx) ls st M) : J 67 ls st M := R.2.2.2.2.2.1 ls st M h
theorem R_X6_readClause_79 {sx : Nat → Nat} {J : JT} {Q : QT} (R : R_X6_readClause sx J Q) {ls : Ls} {st : St} {M : Mem} (h : wpl J Q (b_X6_readClause_79 sx) ls st M) : J 79 ls st M := R.2.2.2.2.2.2.1 ls st M h
theorem R_X6_readClause_105 {sx : Nat → Nat} {J : JT} {Q : QT} (R : R_X6_readClause sx J Q) {ls : Ls} {st : St} {M : Mem} (h : wpl J Q (b_X6_readClause_105 sx) ls st M) : J 105 ls st M := R.2.2.2.2.2.2.2.1 ls st M h
theorem R_X6_readClause_106 {sx : Nat → Nat} {J : JT} {Q : QT} (R : R_X6_readClause sx J Q) {ls : Ls} {st : St} {M : Mem} (h : wpl J Q (b_X6_readClause_106 sx) ls st M) : J 106 ls st M := R.2.2.2.2.2.2.2.2.1 ls st M h
theorem R_X6_readClause_117 {sx : Nat → Nat} {J : JT} {Q : QT} (R : R_X6_readClause sx J Q) {ls : Ls} {st : St} {M : Mem} (h : wpl J Q (b_X6_readClause_117 sx) ls st M) : J 117 ls st M := R.2.2.2.2.2.2.2.2.2.1 ls st M h
theorem R_X6_readClause_144 {sx : Nat → Nat} {J : JT} {Q : QT} (R : R_X6_readClause sx J Q) {ls : Ls} {st : St} {M : Mem} (h : wpl J Q (b_X6_readClause_144 sx) ls st M) : J 144 ls st M := R.2.2.2.2.2.2.2.2.2.2.1 ls st M h
theorem R_X6_readClause_145 {sx : Nat → Nat} {J : JT} {Q : QT} (R : R_X6_readClause sx J Q) {ls : Ls} {st : St} {M : Mem} (h : wpl J Q (b_X6_readClause_145 sx) ls st M) : J 145 ls st M := R.2.2.2.2.2.2.2.2.2.2.2.1 ls st M h
theorem R_X6_readClause_157 {sx : Nat → Nat} {J : JT} {Q : QT} (R : R_X6_readClause sx J Q) {ls : Ls} {st : St} {M : Mem} (h : wpl J Q (b_X6_readClause_157 sx) ls st M) : J 157 ls st M := R.2.2.2.2.2.2.2.2.2.2.2.2.1 ls st M h
theorem R_X6_readClause_184 {sx : Nat → Nat} {J : JT} {Q : QT} (R : R_X6_readClause sx J Q) {ls : Ls} {st : St} {M : Mem} (h : wpl J Q (b_X6_readClause_184 sx) ls st M) : J 184 ls st M := R.2.2.2.2.2.2.2.2.2.2.2.2.2.1 ls st M h
theorem R_X6_readClause_185 {sx : Nat → Nat} {J : JT} {Q : QT} (R : R_X6_readClause sx J Q) {ls : Ls} {st : St} {M : Mem} (h : wpl J Q (b_X6_readClause_185 sx) ls st M) : J 185 ls st M := R.2.2.2.2.2.2.2.2.2.2.2.2.2.2.1 ls st M h
theorem R_X6_readClause_196 {sx : Nat → Nat} {J : JT} {Q : QT} (R : R_X6_readClause sx J Q) {ls : Ls} {st : St} {M : Mem} (h : wpl J Q (b_X6_readClause_196 sx) ls st M) : J 196 ls st M := R.2.2.2.2.2.2.2.2.2.2.2.2.2.2.2.1 ls st M h
theorem R_X6_readClause_218 {sx : Nat → Nat} {J : JT} {Q : QT} (R : R_X6_readClause sx J Q) {ls : Ls} {st : St} {M : Mem} (h : wpl J Q (b_X6_readClause_218 sx) ls st M) : J 218 ls st M := R.2.2.2.2.2.2.2.2.2.2.2.2.2.2.2.2.1 ls st M h
theorem R_X6_readClause_223 {sx : Nat → Nat} {J : JT} {Q : QT} (R : R_X6_readClause sx J Q) {ls : Ls} {st : St} {M : Mem} (h : wpl J Q (b_X6_readClause_223 sx) ls st M) : J 223 ls st M := R.2.2.2.2.2.2.2.2.2.2.2.2.2.2.2.2.2 ls st M h
theorem use_wd {sx : Nat → Nat} {M : Mem} {B : Nat → Int} {e i : Nat} {s : Tp} {Q : QT} (hi : i < 7) (ts : TSs M B e s) (h1 : tf (wdP B s.2.1 s.1 i) = true → Q (.inl (some (vI 1))) M) (h2 : ¬ tf (wdP B s.2.1 s.1 i) = true → Q (.inl (some (vI 0))) M) : nf (G_X9_wordIs sx) [.inr (.inl 1), .inr (.inr (.inr (sx i)))] M Q := ⟨i, B, e, s.1, s.2.1, s.2.2.1, s.2.2.2, ⟨rfl, hi, rfl⟩, ts, fun q => h1 (tf_iff.mpr q), fun q => h2 (fun z => q (tf_iff.mp z))⟩
theorem use_room {M : Mem} {B : Nat → Int} {e : Nat} {s : Tp} {c : Bool} {Q : QT} {b : Int} (hb : b = if c = true then 1 else 0) (ts : TSs M B e s) (h : ∀ M' : Mem, TF M M' → TSs M' B e (rmS c s) → Q (.inl none) M') : nf G_X6_needRoom [.inr (.inl 1), .inl b] M Q := by
  refine ⟨B, e, s, rfl, ts, fun q => h M (TF.rf M) ?_, fun q M' tf ts2 => h M' tf ?_⟩
  · unfold rmS
    cases c with
    | true => exact ts
    | false => exact absurd hb q
  · unfold rmS
    cases c with
    | true => rw [q] at hb; exact absurd hb (by decide)
    | false => exact ts2
theorem RF.tr1 {k : Nat} {M M1 M2 : Mem} (tf : TF M M1) (rf : RF k M1 M2) : RF k M M2 := fun u v q1 q2 => (rf u v q1 q2).trans (tf u v q2)
theorem P_X6_readClause {sx : Nat → Nat} {J : JT} {Q : QT} (R : R_X6_readClause sx J Q) {as : List Vl} {M : Mem} (h : nf G_X6_readClause as M Q) : (enL as).length ≤ 3 ∧ J 0 (padL 3 (enL as)) [] M := by
  unfold nf G_X6_readClause at h
  split at h
  · rename_i k tp b
    obtain ⟨Ab, B, e, s, rfl, hb01, hpl, ts, hQ⟩ := h
    have hk := hpl.1
    have hp := hpl.2.1
    have done : ∀ M' : Mem, RF k M M' → PL M' k (clM B e Ab b s) → TSs M' B e (clT B e Ab b s) → J 223 [some (vR k), some (vR 1), some (vI b)] [] M' := fun M' h1 h2 h3 => R_X6_readClause_223 R (hQ M' h1 h2 h3)
    unfold clM clT at done
    have a218 : (∀ i, i < 6 → ¬ tf (wdP B s.2.1 s.1 i) = true) → J 218 [some (vR k), some (vR 1), some (vI b)] [] M := by
      intro no
      rw [if_neg (no 0 (by decide)), if_neg (no 1 (by decide)), if_neg (no 2 (by decide)), if_neg (no 3 (by decide)), if_neg (no 4 (by decide)), if_neg (no 5 (by decide)), if_neg (no 0 (by decide)), if_neg (no 1 (by decide)), if_neg (no 2 (by decide)), if_neg (no 3 (by decide)), if_neg (no 4 (by decide)), if_neg (no 5 (by decide))] at done
      exact R_X6_readClause_218 R (an o1 (use_ref ts (fun M1 tf1 ts1 => done M1 (RF.tf tf1) (hpl.tf tf1) ts1)))
    have a196 : (∀ i, i < 5 → ¬ tf (wdP B s.2.1 s.1 i) = true) → (b = 0 ∨ b = 1) → J 196 [some (vR k), some (vR 1), some (vI b)] [] M := by
      intro no hb
      refine R_X6_readClause_196 R (an o1 (use_wd (i := 5) (by decide) ts (fun y => bf (by decide) (use_room (c := !decide (b = 0)) ?_ ts (fun M1 tf1 ts1 => an (pl_ob hk) ⟨Ab, B, e, _, rfl, hpl.tf tf1, ts1, fun M2 rf2 pl2 ts2 => ?_⟩))) (fun y => bt rfl (a218 (fun i hi => ?_)))))
      · rcases hb with rfl | rfl <;> rfl
      · rw [if_neg (no 0 (by decide)), if_neg (no 1 (by decide)), if_neg (no 2 (by decide)), if_neg (no 3 (by decide)), if_neg (no 4 (by decide)), if_pos y, if_neg (no 0 (by decide)), if_neg (no 1 (by decide)), if_neg (no 2 (by decide)), if_neg (no 3 (by decide)), if_neg (no 4 (by decide)), if_pos y] at done
        exact done M2 (RF.tr1 tf1 rf2) pl2 ts2
      · by_cases q : i = 5
        · subst q; exact y
        · exact no i (by omega)
    have a157 : (∀ i, i < 4 → ¬ tf (wdP B s.2.1 s.1 i) = true) → (b = 0 ∨ b = 1) → J 157 [some (vR k), some (vR 1), some (vI b)] [] M := by
      intro no hb
      have go : tf (wdP B s.2.1 s.1 4) = true → ∀ x : Int, x = (if (!decide (b = 0) && decide (Ab 10 4 < 8)) = true then 1 else 0) → J 185 [some (vR k), some (vR 1), some (vI b)] [vI x, vR 1] M := by
        intro y x hx
        rw [if_neg (no 0 (by decide)), if_neg (no 1 (by decide)), if_neg (no 2 (by decide)), if_neg (no 3 (by decide)), if_pos y, if_neg (no 0 (by decide)), if_neg (no 1 (by decide)), if_neg (no 2 (by decide)), if_neg (no 3 (by decide)), if_pos y] at done
        exact R_X6_readClause_185 R (use_room hx ts (fun M1 tf1 ts1 => an (pl_ob hk) ⟨Ab, B, e, _, rfl, hpl.tf tf1, ts1, fun M2 rf2 pl2 ts2 => done M2 (RF.tr1 tf1 rf2) pl2 ts2⟩))
      refine R_X6_readClause_157 R (an o1 (use_wd (i := 4) (by decide) ts (fun y => bf (by decide) (br (fun g => R_X6_readClause_184 R (go y 0 ?_)) (fun g => an (pl_ob hk) (br (fun g2 => R_X6_readClause_184 R (go y 0 ?_)) (fun g2 => go y 1 ?_))))) (fun y => bt rfl (a196 (fun i hi => ?_) hb))))
      · have g : b = 0 := g
        rw [if_neg]
        simp [g]
      · have g2 : (8 : Int) ≤ M k 10 := g2
        have e8 : M k 10 = Ab 10 4 := hp.2.2.2.1
        rw [if_neg]
        simp
        intro _
        omega
      · have g : ¬ b = 0 := g
        have g2 : ¬ (8 : Int) ≤ M k 10 := g2
        have e8 : M k 10 = Ab 10 4 := hp.2.2.2.1
        rw [if_pos]
        simp [g]
        omega
      · by_cases q : i = 4
        · subst q; exact y
        · exact no i (by omega)
    have a117 : (∀ i, i < 3 → ¬ tf (wdP B s.2.1 s.1 i) = true) → (b = 0 ∨ b = 1) → J 117 [some (vR k), some (vR 1), some (vI b)] [] M := by
      intro no hb
      have go : tf (wdP B s.2.1 s.1 3) = true → ∀ x : Int, x = (if (!decide (b = 0) && decide (Ab 10 2 < 14)) = true then 1 else 0) → J 145 [some (vR k), some (vR 1), some (vI b)] [vI x, vR 1] M := by
        intro y x hx
        rw [if_neg (no 0 (by decide)), if_neg (no 1 (by decide)), if_neg (no 2 (by decide)), if_pos y, if_neg (no 0 (by decide)), if_neg (no 1 (by decide)), if_neg (no 2 (by decide)), if_pos y] at done
        exact R_X6_readClause_145 R (use_room hx ts (fun M1 tf1 ts1 => an (pl_ob hk) ⟨Ab, B, e, _, rfl, hpl.tf tf1, ts1, fun M2 rf2 pl2 ts2 => done M2 (RF.tr1 tf1 rf2) pl2 ts2⟩))
      refine R_X6_readClause_117 R (an o1 (use_wd (i := 3) (by decide) ts (fun y => bf (by decide) (br (fun g => R_X6_readClause_144 R (go y 0 ?_)) (fun g => an (pl_ob hk) (br (fun g2 => R_X6_readClause_144 R (go y 0 ?_)) (fun g2 => go y 1 ?_))))) (fun y => bt rfl (a157 (fun i hi => ?_) hb))))
      · have g : b = 0 := g
        rw [if_neg]
        simp [g]
      · have g2 : (14 : Int) ≤ M k 3 := g2
        have e8 : M k 3 = Ab 10 2 := hp.2.1
        rw [if_neg]
        simp
        intro _
        omega
      · have g : ¬ b = 0 := g
        have g2 : ¬ (14 : Int) ≤ M k 3 := g2
        have e8 : M k 3 = Ab 10 2 := hp.2.1
        rw [if_pos]
        simp [g]
        omega
      · by_cases q : i = 3
        · subst q; exact y
        · exact no i (by omega)
    have a79 : (∀ i, i < 2 → ¬ tf (wdP B s.2.1 s.1 i) = true) → (b = 0 ∨ b = 1) → J 79 [some (vR k), some (vR 1), some (vI b)] [] M := by
      intro no hb
      have go : tf (wdP B s.2.1 s.1 2) = true → ∀ x : Int, x = (if (!decide (b = 0) && decide (Ab 10 3 < 3)) = true then 1 else 0) → J 106 [some (vR k), some (vR 1), some (vI b)] [vI x, vR 1] M := by
        intro y x hx
        rw [if_neg (no 0 (by decide)), if_neg (no 1 (by decide)), if_pos y, if_neg (no 0 (by decide)), if_neg (no 1 (by decide)), if_pos y] at done
        exact R_X6_readClause_106 R (use_room hx ts (fun M1 tf1 ts1 => an (pl_ob hk) ⟨Ab, B, e, _, rfl, hpl.tf tf1, ts1, fun M2 rf2 pl2 ts2 => done M2 (RF.tr1 tf1 rf2) pl2 ts2⟩))
      refine R_X6_readClause_79 R (an o1 (use_wd (i := 2) (by decide) ts (fun y => bf (by decide) (br (fun g => R_X6_readClause_105 R (go y 0 ?_)) (fun g => an (pl_ob hk) (br (fun g2 => R_X6_readClause_105 R (go y 0 ?_)) (fun g2 => go y 1 ?_))))) (fun y => bt rfl (a117 (fun i hi => ?_) hb))))
      · have g : b = 0 := g
        rw [if_neg]
        simp [g]
      · have g2 : (3 : Int) ≤ M k 8 := g2
        have e8 : M k 8 = Ab 10 3 := hp.2.2.1
        rw [if_neg]
        simp
        intro _
        omega
      · have g : ¬ b = 0 := g
        have g2 : ¬ (3 : Int) ≤ M k 8 := g2
        have e8 : M k 8 = Ab 10 3 := hp.2.2.1
        rw [if_pos]
        simp [g]
        omega
      · by_cases q : i = 2
        · subst q; exact y
        · exact no i (by omega)
    have a39 : (∀ i, i < 1 → ¬ tf (wdP B s.2.1 s.1 i) = true) → (b = 0 ∨ b = 1) → J 39 [some (vR k), some (vR 1), some (vI b)] [] M := by
      intro no hb
      have go : tf (wdP B s.2.1 s.1 1) = true → ∀ x : Int, x = (if (!decide (b = 0) && decide (Ab 10 2 < 14)) = true then 1 else 0) → J 67 [some (vR k), some (vR 1), some (vI b)] [vI x, vR 1] M := by
        intro y x hx
        rw [if_neg (no 0 (by decide)), if_pos y, if_neg (no 0 (by decide)), if_pos y] at done
        exact R_X6_readClause_67 R (use_room hx ts (fun M1 tf1 ts1 => an (pl_ob hk) ⟨Ab, B, e, _, rfl, hpl.tf tf1, ts1, fun M2 rf2 pl2 ts2 => done M2 (RF.tr1 tf1 rf2) pl2 ts2⟩))
      refine R_X6_readClause_39 R (an o1 (use_wd (i := 1) (by decide) ts (fun y => bf (by decide) (br (fun g => R_X6_readClause_66 R (go y 0 ?_)) (fun g => an (pl_ob hk) (br (fun g2 => R_X6_readClause_66 R (go y 0 ?_)) (fun g2 => go y 1 ?_))))) (fun y => bt rfl (a79 (fun i hi => ?_) hb))))
      · have g : b = 0 := g
        rw [if_neg]
        simp [g]
      · have g2 : (14 : Int) ≤ M k 3 := g2
        have e8 : M k 3 = Ab 10 2 := hp.2.1
        rw [if_neg]
        simp
        intro _
        omega
      · have g : ¬ b = 0 := g
        have g2 : ¬ (14 : Int) ≤ M k 3 := g2
        have e8 : M k 3 = Ab 10 2 := hp.2.1
        rw [if_pos]
        simp [g]
        omega
      · by_cases q : i = 1
        · subst q; exact y
        · exact no i (by omega)
    have a0 : (∀ i, i < 0 → ¬ tf (wdP B s.2.1 s.1 i) = true) → (b = 0 ∨ b = 1) → J 0 [some (vR k), some (vR 1), some (vI b)] [] M := by
      intro no hb
      have go : tf (wdP B s.2.1 s.1 0) = true → ∀ x : Int, x = (if (!decide (b = 0) && decide (Ab 10 1 < 10)) = true then 1 else 0) → J 28 [some (vR k), some (vR 1), some (vI b)] [vI x, vR 1] M := by
        intro y x hx
        rw [if_pos y, if_pos y] at done
        exact R_X6_readClause_28 R (use_room hx ts (fun M1 tf1 ts1 => an (pl_ob hk) ⟨Ab, B, e, _, rfl, hpl.tf tf1, ts1, fun M2 rf2 pl2 ts2 => done M2 (RF.tr1 tf1 rf2) pl2 ts2⟩))
      refine R_X6_readClause_0 R (an o1 (use_wd (i := 0) (by decide) ts (fun y => bf (by decide) (br (fun g => R_X6_readClause_27 R (go y 0 ?_)) (fun g => an (pl_ob hk) (br (fun g2 => R_X6_readClause_27 R (go y 0 ?_)) (fun g2 => go y 1 ?_))))) (fun y => bt rfl (a39 (fun i hi => ?_) hb))))
      · have g : b = 0 := g
        rw [if_neg]
        simp [g]
      · have g2 : (10 : Int) ≤ M k 0 := g2
        have e8 : M k 0 = Ab 10 1 := hp.1
        rw [if_neg]
        simp
        intro _
        omega
      · have g : ¬ b = 0 := g
        have g2 : ¬ (10 : Int) ≤ M k 0 := g2
        have e8 : M k 0 = Ab 10 1 := hp.1
        rw [if_pos]
        simp [g]
        omega
      · by_cases q : i = 0
        · subst q; exact y
        · exact no i (by omega)
    exact ⟨Nat.le_of_ble_eq_true rfl, a0 (fun i hi => by omega) hb01⟩

  · exact h.elim