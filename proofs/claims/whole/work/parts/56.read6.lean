def hmT (B : Nat → Int) (e : Nat) (s : Tp) : Tp := if s.2.2.1 = 0 then (sk cBl B e s.1, sk cBl B e s.1, s.2.2.1, s.2.2.2) else s
def hmB (B : Nat → Int) (e : Nat) (s : Tp) : Bool := decide (s.2.2.1 = 0) && decide (sk cBl B e s.1 < e)
def wdT (B : Nat → Int) (e : Nat) (s : Tp) : Tp := if s.2.2.1 = 0 then (sk cLt B e (sk cBl B e s.1), sk cBl B e s.1, s.2.2.1, s.2.2.2) else s
def stT (B : Nat → Int) (e : Nat) (s : Tp) : Tp := if s.2.2.1 = 0 then (if sk cBl B e s.1 < e ∧ B (sk cBl B e s.1) = 59 then (sk cBl B e s.1 + 1, sk cBl B e s.1, 0, s.2.2.2) else (sk cBl B e s.1, sk cBl B e s.1, 1, ((sk cBl B e s.1 : Nat) : Int))) else s
theorem use_more {M : Mem} {B : Nat → Int} {e : Nat} {s : Tp} {Q : QT} (ts : TSs M B e s) (h1 : hmB B e s = true → ∀ M' : Mem, TF M M' → TSs M' B e (hmT B e s) → Q (.inl (some (vI 1))) M') (h2 : ¬ hmB B e s = true → ∀ M' : Mem, TF M M' → TSs M' B e (hmT B e s) → Q (.inl (some (vI 0))) M') : nf G_X9_hasMore [.inr (.inl 1)] M Q := by
  refine ⟨B, e, s.1, s.2.1, s.2.2.1, s.2.2.2, rfl, ts, fun q => h2 (fun z => ?_) M (TF.rf M) ?_, fun q M' tf ts2 => ⟨fun c => h1 ?_ M' tf ?_, fun c => h2 (fun z => ?_) M' tf ?_⟩⟩
  · unfold hmB at z; rw [Bool.and_eq_true, decide_eq_true_eq] at z; exact q z.1
  · unfold hmT; rw [if_neg q]; exact ts
  · unfold hmB; rw [Bool.and_eq_true, decide_eq_true_eq, decide_eq_true_eq]; exact ⟨q, c⟩
  · unfold hmT; rw [if_pos q]; exact ts2
  · unfold hmB at z; rw [Bool.and_eq_true, decide_eq_true_eq, decide_eq_true_eq] at z; exact c z.2
  · unfold hmT; rw [if_pos q]; exact ts2
theorem use_rw {M : Mem} {B : Nat → Int} {e : Nat} {s : Tp} {Q : QT} (ts : TSs M B e s) (h : ∀ M' : Mem, TF M M' → TSs M' B e (wdT B e s) → Q (.inl none) M') : nf G_X9_readWord [.inr (.inl 1)] M Q := by
  refine ⟨B, e, s.1, s.2.1, s.2.2.1, s.2.2.2, rfl, ts, fun q => h M (TF.rf M) ?_, fun q M' tf ts2 => h M' tf ?_⟩
  · unfold wdT; rw [if_neg q]; exact ts
  · unfold wdT; rw [if_pos q]; exact ts2
theorem use_st {M : Mem} {B : Nat → Int} {e : Nat} {s : Tp} {Q : QT} (ts : TSs M B e s) (h : ∀ M' : Mem, TF M M' → TSs M' B e (stT B e s) → Q (.inl none) M') : nf G_X9_readStop [.inr (.inl 1)] M Q := by
  refine ⟨B, e, s.1, s.2.1, s.2.2.1, s.2.2.2, rfl, ts, fun q => h M (TF.rf M) ?_, fun q M' t ht tf a1 a2 => h M' tf ?_⟩
  · unfold stT; rw [if_neg q]; exact ts
  · subst ht
    unfold stT; rw [if_pos q]
    by_cases c : sk cBl B e s.1 < e ∧ B (sk cBl B e s.1) = 59
    · rw [if_pos c]; exact a1 c
    · rw [if_neg c]; exact a2 c
/-- a hall's text, clause by clause; so many more may come -/
noncomputable def prS (B : Nat → Int) (e : Nat) : Nat → Mem × Tp → Mem × Tp
  | 0, x => x
  | n + 1, x => if hmB B e x.2 = true then prS B e n (clM B e x.1 (if n = 0 then 0 else 1) (wdT B e (hmT B e x.2)), stT B e (clT B e x.1 (if n = 0 then 0 else 1) (wdT B e (hmT B e x.2)))) else (x.1, hmT B e x.2)
def Ab0 : Mem := fun _ _ => 0
def G_X6_readFrom : FN := fun as M Q => match as with
  | [.inr (.inl k), .inr (.inl tp)] => ∃ B e s, (tp = 1 ∧ PlanAt k) ∧ TSs M B e s ∧ ∀ M', RF k M M' → PL M' k (prS B e 61 (Ab0, s)).1 → TSs M' B e (prS B e 61 (Ab0, s)).2 → Q none M'
  | _ => False
def b_X6_readFrom_0 : List AT := [tx_al 0, tx_ic 0, tx_pi 6 0, tx_al 0, tx_ic 0, tx_pi 6 3, tx_al 0, tx_ic 0, tx_pi 6 8, tx_al 0, tx_ic 0, tx_pi 6 10, tx_al 0, tx_ic 0, tx_pi 6 14, tx_ic 0, tx_is 2, tx_fall 27]
def b_X6_readFrom_27 : List AT := [tx_il 2, tx_ic 60, tx_cmp r_gt 70, tx_al 1, tx_callv 9 (nf G_X9_hasMore) 0, tx_ifz r_eq 70, tx_al 1, tx_callv 9 (nf G_X9_readWord) 0, tx_al 0, tx_al 1, tx_il 2, tx_ic 60, tx_cmp r_ge 56, tx_ic 1, tx_fall 57]
def b_X6_readFrom_56 : List AT := [tx_ic 0, tx_fall 57]
def b_X6_readFrom_57 : List AT := [tx_callv 6 (nf G_X6_readClause) 2, tx_al 1, tx_callv 9 (nf G_X9_readStop) 0, tx_inc 2 1, tx_fall 27]
def b_X6_readFrom_70 : List AT := [tx_rv]
def R_X6_readFrom (J : JT) (Q : QT) : Prop := (∀ ls st M, wpl J Q b_X6_readFrom_0 ls st M → J 0 ls st M) ∧ (∀ ls st M, wpl J Q b_X6_readFrom_27 ls st M → J 27 ls st M) ∧ (∀ ls st M, wpl J Q b_X6_readFrom_56 ls st M → J 56 ls st M) ∧ (∀ ls st M, wpl J Q b_X6_readFrom_57 ls st M → J 57 ls st M) ∧ (∀ ls st M, wpl J Q b_X6_readFrom_70 ls st M → J 70 ls st M)
theorem R_X6_readFrom_0 {J : JT} {Q : QT} (R : R_X6_readFrom J Q) {ls : Ls} {st : St} {M : Mem} (h : wpl J Q b_X6_readFrom_0 ls st M) : J 0 ls st M := R.1 ls st M h
theorem R_X6_readFrom_27 {J : JT} {Q : QT} (R : R_X6_readFrom J Q) {ls : Ls} {st : St} {M : Mem} (h : wpl J Q b_X6_readFrom_27 ls st M) : J 27 ls st M := R.2.1 ls st M h
theorem R_X6_readFrom_56 {J : JT} {Q : QT} (R : R_X6_readFrom J Q) {ls : Ls} {st : St} {M : Mem} (h : wpl J Q b_X6_readFrom_56 ls st M) : J 56 ls st M := R.2.2.1 ls st M h
theorem R_X6_readFrom_57 {J : JT} {Q : QT} (R : R_X6_readFrom J Q) {ls : Ls} {st : St} {M : Mem} (h : wpl J Q b_X6_readFrom_57 ls st M) : J 57 ls st M := R.2.2.2.1 ls st M h
theorem R_X6_readFrom_70 {J : JT} {Q : QT} (R : R_X6_readFrom J Q) {ls : Ls} {st : St} {M : Mem} (h : wpl J Q b_X6_readFrom_70 ls st M) : J 70 ls st M := R.2.2.2.2 ls st M h
theorem RF.tr {k : Nat} {M M1 M2 : Mem} (h1 : RF k M M1) (h2 : RF k M1 M2) : RF k M M2 := fun u v q1 q2 => (h2 u v q1 q2).trans (h1 u v q1 q2)
theorem P_X6_readFrom {J : JT} {Q : QT} (R : R_X6_readFrom J Q) {as : List Vl} {M : Mem} (h : nf G_X6_readFrom as M Q) : (enL as).length ≤ 3 ∧ J 0 (padL 3 (enL as)) [] M := by
  unfold nf G_X6_readFrom at h
  split at h
  · rename_i k tp
    obtain ⟨B, e, s, ⟨rfl, hk⟩, ts, hQ⟩ := h
    have k3 := pl_3a hk
    have key : ∀ c : Nat, c ≤ 61 → ∀ (x : Int) (M' : Mem) (a : Mem × Tp), x = (c : Int) → RF k M M' → PL M' k a.1 → TSs M' B e a.2 → prS B e (61 - c) a = prS B e 61 (Ab0, s) → J 27 [some (vR k), some (vR 1), some (vI x)] [] M' := by
      have fin : ∀ (x : Int) (M' : Mem) (a : Mem × Tp), RF k M M' → PL M' k a.1 → TSs M' B e a.2 → a = prS B e 61 (Ab0, s) → J 70 [some (vR k), some (vR 1), some (vI x)] [] M' := fun x M' a h1 h2 h3 h4 => R_X6_readFrom_70 R (by rw [h4] at h2 h3; exact hQ M' h1 h2 h3)
      refine dn ?_ ?_
      · intro x M' a hx h1 h2 h3 h4
        exact R_X6_readFrom_27 R (bt (show (60 : Int) < x by omega) (fin x M' a h1 h2 h3 h4))
      · intro c hc ih x M' a hx h1 h2 h3 h4
        have e1 : 61 - c = 60 - c + 1 := by omega
        rw [e1, prS] at h4
        have go : ∀ (b : Int) (M1 : Mem), b = (if 60 - c = 0 then 0 else 1) → hmB B e a.2 = true → TF M' M1 → TSs M1 B e (wdT B e (hmT B e a.2)) → J 57 [some (vR k), some (vR 1), some (vI x)] [vI b, vR 1, vR k] M1 := by
          intro b M1 hb hm tf1 ts1
          rw [if_pos hm, ← hb] at h4
          refine R_X6_readFrom_57 R (an (pl_ob hk) ⟨a.1, B, e, _, rfl, by rw [hb]; split; exact Or.inl rfl; exact Or.inr rfl, h2.tf tf1, ts1, fun M2 rf2 pl2 ts2 => an o1 (use_st ts2 (fun M3 tf3 ts3 => ih _ M3 (_, _) (wn hx (by omega)) ((h1.tr (RF.tf tf1)).tr (rf2.tr (RF.tf tf3))) (pl2.tf tf3) ts3 ?_))⟩)
          rw [show 61 - (c + 1) = 60 - c by omega]
          exact h4
        refine R_X6_readFrom_27 R (bf (show ¬ (60 : Int) < x by omega) (an o1 (use_more h3 (fun hm M1 tf1 ts1 => bf (by decide) (an o1 (use_rw ts1 (fun M2 tf2 ts2 => br (fun g => R_X6_readFrom_56 R (go 0 M2 ?_ hm (tf1.tr tf2) ts2)) (fun g => go 1 M2 ?_ hm (tf1.tr tf2) ts2))))) (fun hm M1 tf1 ts1 => bt rfl ?_))))
        · have g : (60 : Int) ≤ x := g
          rw [if_pos (by omega)]
        · have g : ¬ (60 : Int) ≤ x := g
          rw [if_neg (by omega)]
        · rw [if_neg hm] at h4
          exact fin x M1 (a.1, hmT B e a.2) (h1.tr (RF.tf tf1)) (h2.tf tf1) ts1 h4
    refine ⟨Nat.le_of_ble_eq_true rfl, R_X6_readFrom_0 R (an (pl_ob hk) (an (pl_ob hk) (an (pl_ob hk) (an (pl_ob hk) (an (pl_ob hk) (key 0 (by decide) _ _ (Ab0, s) rfl (fun u v q1 q2 => ?_) ⟨hk, ⟨?_, ?_, ?_, ?_, ?_, fun p hp => ?_, fun p hp => ?_, fun p hp => ?_, fun p hp => ?_⟩, ?_⟩ (ts.kept (fun u v hu => ?_)) rfl))))))⟩
    · rw [up_ne (by omega), up_ne (by omega), up_ne (by omega), up_ne (by omega), up_ne (by omega)]
    · rw [up_ne (by omega), up_ne (by omega), up_ne (by omega), up_ne (by omega), up_eq]; rfl
    · rw [up_ne (by omega), up_ne (by omega), up_ne (by omega), up_eq]; rfl
    · rw [up_ne (by omega), up_ne (by omega), up_eq]; rfl
    · rw [up_ne (by omega), up_eq]; rfl
    · rw [up_eq]; rfl
    · exact absurd hp (Nat.not_lt_zero _)
    · exact absurd hp (Nat.not_lt_zero _)
    · exact absurd hp (Nat.not_lt_zero _)
    · exact absurd hp (Nat.not_lt_zero _)
    · show HallOK Ab0
      exact ⟨by decide, by decide, by decide, by decide, by decide, fun p hp => absurd hp (Nat.not_lt_zero _), fun p hp => absurd hp (Nat.not_lt_zero _), fun p hp => absurd hp (Nat.not_lt_zero _), fun p hp => absurd hp (Nat.not_lt_zero _)⟩
    · rw [up_ne (by omega), up_ne (by omega), up_ne (by omega), up_ne (by omega), up_ne (by omega)]

  · exact h.elim