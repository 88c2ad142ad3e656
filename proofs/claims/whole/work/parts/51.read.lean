/-! Plan: to read a clause -/
def RF (k : Nat) (M M' : Mem) : Prop := ∀ u v, ¬ (k ≤ u ∧ u ≤ k + 10) → ¬ (u = 1 ∧ 3 ≤ v ∧ v ≤ 6) → M' u v = M u v
def rpM (B : Nat → Int) (e : Nat) (Ab : Mem) (s : Tp) : Mem := if (nuT B e 1 99 (nuT B e 0 3 s)).2.2.1 = 0 ∧ Ab 10 1 < 10 then up (up (up Ab 4 (nP Ab) (nuV B e s)) 5 (nP Ab) (nuV B e (nuT B e 0 3 s))) 10 1 (Ab 10 1 + 1) else Ab
def rdM (B : Nat → Int) (e : Nat) (Ab : Mem) (s : Tp) : Mem := if (nuT B e 1 99 s).2.2.1 = 0 ∧ Ab 10 3 < 3 then up (up Ab 6 (nD Ab) (nuV B e s)) 10 3 (Ab 10 3 + 1) else Ab
def rlM (B : Nat → Int) (e : Nat) (Ab : Mem) (s : Tp) : Mem := if (nuT B e 0 2 s).2.2.1 = 0 then up Ab 10 0 (nuV B e s) else Ab
def G_X6_readPerson : FN := fun as M Q => match as with
  | [.inr (.inl k), .inr (.inl tp)] => ∃ Ab B e s, tp = 1 ∧ PL M k Ab ∧ TSs M B e s ∧ ∀ M', RF k M M' → PL M' k (rpM B e Ab s) → TSs M' B e (nuT B e 1 99 (nuT B e 0 3 s)) → Q none M'
  | _ => False
def G_X6_readDoor : FN := fun as M Q => match as with
  | [.inr (.inl k), .inr (.inl tp)] => ∃ Ab B e s, tp = 1 ∧ PL M k Ab ∧ TSs M B e s ∧ ∀ M', RF k M M' → PL M' k (rdM B e Ab s) → TSs M' B e (nuT B e 1 99 s) → Q none M'
  | _ => False
def G_X6_readLaw : FN := fun as M Q => match as with
  | [.inr (.inl k), .inr (.inl tp)] => ∃ Ab B e s, tp = 1 ∧ PL M k Ab ∧ TSs M B e s ∧ ∀ M', RF k M M' → PL M' k (rlM B e Ab s) → TSs M' B e (nuT B e 0 2 s) → Q none M'
  | _ => False
def G_X6_needRoom : FN := fun as M Q => match as with
  | [.inr (.inl tp), .inl b] => ∃ B e s, tp = 1 ∧ TSs M B e s ∧ (¬ b = 0 → Q none M) ∧ (b = 0 → ∀ M', TF M M' → TSs M' B e (reT 3 s) → Q none M')
  | _ => False
def b_X6_readPerson_0 : List AT := tx_al 1 :: tx_ic 0 :: tx_ic 3 :: tx_callv 9 (nf G_X9_readNumber) 2 :: tx_is 2 :: tx_al 1 :: tx_ic 1 :: tx_ic 99 :: tx_callv 9 (nf G_X9_readNumber) 2 :: tx_is 3 :: tx_al 1 :: tx_callv 9 (nf G_X9_isSound) 0 :: tx_ifz r_eq 61 :: tx_al 0 :: tx_gi 6 0 :: tx_ic 10 :: tx_cmp r_ge 61 :: tx_al 0 :: tx_gr 6 1 :: tx_al 0 :: tx_gi 6 0 :: tx_il 2 :: tx_iax :: tx_al 0 :: tx_gr 6 2 :: tx_al 0 :: tx_gi 6 0 :: tx_il 3 :: tx_iax :: tx_al 0 :: tx_dup :: tx_gi 6 0 :: tx_ic 1 :: tx_bin f_add :: tx_pi 6 0 :: tx_fall 61 :: []
def b_X6_readPerson_61 : List AT := [tx_rv]
def R_X6_readPerson (J : JT) (Q : QT) : Prop := (∀ ls st M, wpl J Q b_X6_readPerson_0 ls st M → J 0 ls st M) ∧ (∀ ls st M, wpl J Q b_X6_readPerson_61 ls st M → J 61 ls st M)
theorem R_X6_readPerson_0 {J : JT} {Q : QT} (R : R_X6_readPerson J Q) {ls : Ls} {st : St} {M : Mem} (h : wpl J Q b_X6_readPerson_0 ls st M) : J 0 ls st M := R.1 ls st M h
theorem R_X6_readPerson_61 {J : JT} {Q : QT} (R : R_X6_readPerson J Q) {ls : Ls} {st : St} {M : Mem} (h : wpl J Q b_X6_readPerson_61 ls st M) : J 61 ls st M := R.2 ls st M h
def b_X6_readDoor_0 : List AT := tx_al 1 :: tx_ic 1 :: tx_ic 99 :: tx_callv 9 (nf G_X9_readNumber) 2 :: tx_is 2 :: tx_al 1 :: tx_callv 9 (nf G_X9_isSound) 0 :: tx_ifz r_eq 43 :: tx_al 0 :: tx_gi 6 8 :: tx_ic 3 :: tx_cmp r_ge 43 :: tx_al 0 :: tx_gr 6 7 :: tx_al 0 :: tx_gi 6 8 :: tx_il 2 :: tx_iax :: tx_al 0 :: tx_dup :: tx_gi 6 8 :: tx_ic 1 :: tx_bin f_add :: tx_pi 6 8 :: tx_fall 43 :: []
def b_X6_readDoor_43 : List AT := [tx_rv]
def R_X6_readDoor (J : JT) (Q : QT) : Prop := (∀ ls st M, wpl J Q b_X6_readDoor_0 ls st M → J 0 ls st M) ∧ (∀ ls st M, wpl J Q b_X6_readDoor_43 ls st M → J 43 ls st M)
theorem R_X6_readDoor_0 {J : JT} {Q : QT} (R : R_X6_readDoor J Q) {ls : Ls} {st : St} {M : Mem} (h : wpl J Q b_X6_readDoor_0 ls st M) : J 0 ls st M := R.1 ls st M h
theorem R_X6_readDoor_43 {J : JT} {Q : QT} (R : R_X6_readDoor J Q) {ls : Ls} {st : St} {M : Mem} (h : wpl J Q b_X6_readDoor_43 ls st M) : J 43 ls st M := R.2 ls st M h
def b_X6_readLaw_0 : List AT := [tx_al 1, tx_ic 0, tx_ic 2, tx_callv 9 (nf G_X9_readNumber) 2, tx_is 2, tx_al 1, tx_callv 9 (nf G_X9_isSound) 0, tx_ifz r_eq 19, tx_al 0, tx_il 2, tx_pi 6 14, tx_fall 19]
def b_X6_readLaw_19 : List AT := [tx_rv]
def R_X6_readLaw (J : JT) (Q : QT) : Prop := (∀ ls st M, wpl J Q b_X6_readLaw_0 ls st M → J 0 ls st M) ∧ (∀ ls st M, wpl J Q b_X6_readLaw_19 ls st M → J 19 ls st M)
theorem R_X6_readLaw_0 {J : JT} {Q : QT} (R : R_X6_readLaw J Q) {ls : Ls} {st : St} {M : Mem} (h : wpl J Q b_X6_readLaw_0 ls st M) : J 0 ls st M := R.1 ls st M h
theorem R_X6_readLaw_19 {J : JT} {Q : QT} (R : R_X6_readLaw J Q) {ls : Ls} {st : St} {M : Mem} (h : wpl J Q b_X6_readLaw_19 ls st M) : J 19 ls st M := R.2 ls st M h
def b_X6_needRoom_0 : List AT := [tx_il 1, tx_ifz r_ne 9, tx_al 0, tx_ic 3, tx_callv 9 (nf G_X9_refuse) 1, tx_fall 9]
def b_X6_needRoom_9 : List AT := [tx_rv]
def R_X6_needRoom (J : JT) (Q : QT) : Prop := (∀ ls st M, wpl J Q b_X6_needRoom_0 ls st M → J 0 ls st M) ∧ (∀ ls st M, wpl J Q b_X6_needRoom_9 ls st M → J 9 ls st M)
theorem R_X6_needRoom_0 {J : JT} {Q : QT} (R : R_X6_needRoom J Q) {ls : Ls} {st : St} {M : Mem} (h : wpl J Q b_X6_needRoom_0 ls st M) : J 0 ls st M := R.1 ls st M h
theorem R_X6_needRoom_9 {J : JT} {Q : QT} (R : R_X6_needRoom J Q) {ls : Ls} {st : St} {M : Mem} (h : wpl J Q b_X6_needRoom_9 ls st M) : J 9 ls st M := R.2 ls st M h
theorem pl_3a {k : Nat} (h : PlanAt k) : 3 ≤ k := by rcases h with rfl | rfl | rfl | rfl | rfl <;> omega
theorem PL.tf {M M' : Mem} {k : Nat} {Ab : Mem} (h : PL M k Ab) (tf : TF M M') : PL M' k Ab := ⟨h.1, h.2.1.kept (fun u v q1 q2 => tf u v (by have := pl_3a h.1; omega)), h.2.2⟩
theorem RF.tf {k : Nat} {M M' : Mem} (tf : TF M M') : RF k M M' := fun u v _ h => tf u v h
theorem TSs.kept {M M' : Mem} {B : Nat → Int} {e : Nat} {s : Tp} (h : TSs M B e s) (f : ∀ u v, u ≤ 2 → M' u v = M u v) : TSs M' B e s := by
  obtain ⟨h1, h2, h3, h4, h5, h6, h7, h8, h9⟩ := h
  refine ⟨by rw [f _ _ (by omega)]; exact h1, by rw [f _ _ (by omega)]; exact h2, by rw [f _ _ (by omega)]; exact h3, by rw [f _ _ (by omega)]; exact h4, by rw [f _ _ (by omega)]; exact h5, h6, h7, h8, fun i hi => by rw [f _ _ (by omega)]; exact h9 i hi⟩
theorem P_X6_needRoom {J : JT} {Q : QT} (R : R_X6_needRoom J Q) {as : List Vl} {M : Mem} (h : nf G_X6_needRoom as M Q) : (enL as).length ≤ 2 ∧ J 0 (padL 2 (enL as)) [] M := by
  unfold nf G_X6_needRoom at h
  split at h
  · rename_i tp b
    obtain ⟨B, e, s, rfl, ts, h1, h2⟩ := h
    exact ⟨Nat.le_of_ble_eq_true rfl, R_X6_needRoom_0 R (br (fun q => R_X6_needRoom_9 R (h1 q)) (fun q => an o1 (use_ref ts (fun M' tf ts2 => R_X6_needRoom_9 R (h2 (Classical.not_not.mp q) M' tf ts2)))))⟩
  · exact h.elim
theorem P_X6_readLaw {J : JT} {Q : QT} (R : R_X6_readLaw J Q) {as : List Vl} {M : Mem} (h : nf G_X6_readLaw as M Q) : (enL as).length ≤ 3 ∧ J 0 (padL 3 (enL as)) [] M := by
  unfold nf G_X6_readLaw at h
  split at h
  · rename_i k tp
    obtain ⟨Ab, B, e, s, rfl, hpl, ts, hQ⟩ := h
    refine ⟨Nat.le_of_ble_eq_true rfl, R_X6_readLaw_0 R (an o1 (use_num (by decide) ts (fun M1 r1 tf1 ts1 hr1 => an o1 (use_snd ts1 (fun z => bf (by decide) (an (pl_ob hpl.1) ?_)) (fun z => bt rfl (R_X6_readLaw_19 R (hQ M1 (RF.tf tf1) ?_ ts1)))))))⟩
    · have r := hr1 z
      have nk := nu_ok z
      obtain ⟨hk, hp, ho⟩ := hpl.tf tf1
      have k3 := pl_3a hk
      subst r
      refine R_X6_readLaw_19 R (hQ _ (fun u v q1 q2 => by rw [up_ne (by omega)]; exact tf1 u v q2) ?_ (ts1.kept (fun u v hu => up_ne (by omega))))
      unfold rlM
      rw [if_pos z]
      refine ⟨hk, ⟨?_, ?_, ?_, ?_, ?_, fun p hp2 => ?_, fun p hp2 => ?_, fun p hp2 => ?_, fun p hp2 => ?_⟩, ?_⟩
      · rw [up_ne (by omega), up_ne (by omega)]; exact hp.1
      · rw [up_ne (by omega), up_ne (by omega)]; exact hp.2.1
      · rw [up_ne (by omega), up_ne (by omega)]; exact hp.2.2.1
      · rw [up_ne (by omega), up_ne (by omega)]; exact hp.2.2.2.1
      · rw [up_eq, up_eq]
      · rw [up_ne (by omega), up_ne (by omega), up_ne (by omega), up_ne (by omega)]; exact hp.2.2.2.2.2.1 p hp2
      · rw [up_ne (by omega), up_ne (by omega), up_ne (by omega), up_ne (by omega), up_ne (by omega), up_ne (by omega), up_ne (by omega), up_ne (by omega)]; exact hp.2.2.2.2.2.2.1 p hp2
      · rw [up_ne (by omega), up_ne (by omega)]; exact hp.2.2.2.2.2.2.2.1 p hp2
      · rw [up_ne (by omega), up_ne (by omega), up_ne (by omega), up_ne (by omega), up_ne (by omega), up_ne (by omega)]; exact hp.2.2.2.2.2.2.2.2 p hp2
      · obtain ⟨a1, a2, a3, a4, a5, a6, a7, a8, a9⟩ := ho
        exact ⟨a1, a2, a3, a4, by rw [up_eq]; exact nk.2, a6, a7, a8, a9⟩
    · unfold rlM
      rw [if_neg z]
      exact hpl.tf tf1
  · exact h.elim
theorem P_X6_readDoor {J : JT} {Q : QT} (R : R_X6_readDoor J Q) {as : List Vl} {M : Mem} (h : nf G_X6_readDoor as M Q) : (enL as).length ≤ 3 ∧ J 0 (padL 3 (enL as)) [] M := by
  unfold nf G_X6_readDoor at h
  split at h
  · rename_i k tp
    obtain ⟨Ab, B, e, s, rfl, hpl, ts, hQ⟩ := h
    refine ⟨Nat.le_of_ble_eq_true rfl, R_X6_readDoor_0 R (an o1 (use_num (by decide) ts (fun M1 r1 tf1 ts1 hr1 => an o1 (use_snd ts1 (fun z => bf (by decide) (an (pl_ob hpl.1) ?_)) (fun z => bt rfl (R_X6_readDoor_43 R (hQ M1 (RF.tf tf1) ?_ ts1)))))))⟩
    · have r := hr1 z
      have nk := nu_ok z
      obtain ⟨hk, hp, ho⟩ := hpl.tf tf1
      have k3 := pl_3a hk
      subst r
      have e8 : M1 k 8 = Ab 10 3 := hp.2.2.1
      have d3 := ho.2.2.1
      refine br (fun g => R_X6_readDoor_43 R (hQ M1 (RF.tf tf1) ?_ ts1)) (fun g => an (pl_ob hk) (an (pl_ob hk) (an ?_ (an (pl_ob hk) (an (pl_ob hk) ?_)))))
      · have g : (3 : Int) ≤ M1 k 8 := g
        unfold rdM
        rw [if_neg (by omega)]
        exact hpl.tf tf1
      · have g : ¬ (3 : Int) ≤ M1 k 8 := g
        show AK 1 (k + 7) (M1 k 8)
        exact ak_of (pl_7 hk) (by omega) (by omega)
      · have g : ¬ (3 : Int) ≤ M1 k 8 := g
        have en : (M1 k 8).toNat = nD Ab := by unfold nD; omega
        have ef : f_add (M1 k 8) 1 = Ab 10 3 + 1 := by rw [e8]; exact w1 (by omega) (by omega) rfl
        have ndS : ((nD Ab : Nat) : Int) = Ab 10 3 := by unfold nD; omega
        refine R_X6_readDoor_43 R (hQ _ (fun u v q1 q2 => by rw [up_ne (by omega), up_ne (by omega)]; exact tf1 u v q2) ?_ (ts1.kept (fun u v hu => by rw [up_ne (by omega), up_ne (by omega)])))
        unfold rdM
        rw [if_pos ⟨z, by omega⟩]
        have enD : nD (up (up Ab 6 (nD Ab) (nuV B e s)) 10 3 (Ab 10 3 + 1)) = nD Ab + 1 := by unfold nD; rw [up_eq]; omega
        refine ⟨hk, ⟨?_, ?_, ?_, ?_, ?_, fun p hp2 => ?_, fun p hp2 => ?_, fun p hp2 => ?_, fun p hp2 => ?_⟩, ?_⟩
        · rw [up_ne (by omega), up_ne (by omega), up_ne (by omega), up_ne (by omega)]; exact hp.1
        · rw [up_ne (by omega), up_ne (by omega), up_ne (by omega), up_ne (by omega)]; exact hp.2.1
        · rw [up_eq, up_eq, up_ne (by omega)]; exact ef
        · rw [up_ne (by omega), up_ne (by omega), up_ne (by omega), up_ne (by omega)]; exact hp.2.2.2.1
        · rw [up_ne (by omega), up_ne (by omega), up_ne (by omega), up_ne (by omega)]; exact hp.2.2.2.2.1
        · rw [up_ne (by omega), up_ne (by omega), up_ne (by omega), up_ne (by omega), up_ne (by omega), up_ne (by omega), up_ne (by omega), up_ne (by omega)]; exact hp.2.2.2.2.2.1 p hp2
        · rw [up_ne (by omega), up_ne (by omega), up_ne (by omega), up_ne (by omega), up_ne (by omega), up_ne (by omega), up_ne (by omega), up_ne (by omega), up_ne (by omega), up_ne (by omega), up_ne (by omega), up_ne (by omega), up_ne (by omega), up_ne (by omega), up_ne (by omega), up_ne (by omega)]; exact hp.2.2.2.2.2.2.1 p hp2
        · rw [enD] at hp2
          rw [up_ne (by omega), up_ne (show ¬ (6 = 10 ∧ p = 3) by omega), en]
          by_cases q : p = nD Ab
          · subst q; rw [up_eq, up_eq]
          · rw [up_ne (by omega), up_ne (by omega)]; exact hp.2.2.2.2.2.2.2.1 p (by omega)
        · rw [up_ne (by omega), up_ne (by omega), up_ne (by omega), up_ne (by omega), up_ne (by omega), up_ne (by omega), up_ne (by omega), up_ne (by omega), up_ne (by omega), up_ne (by omega), up_ne (by omega), up_ne (by omega)]; exact hp.2.2.2.2.2.2.2.2 p hp2
        · obtain ⟨a1, a2, a3, a4, a5, a6, a7, a8, a9⟩ := ho
          refine ⟨a1, a2, ?_, a4, a5, a6, fun t ht => ?_, fun d hd => ?_, a9⟩
          · rw [up_eq]; omega
          · have := a7 t ht
            exact ⟨this.1, this.2.1, ⟨this.2.2.1.1, by rw [up_eq]; have h3 := this.2.2.1.2; have e4 : up (up Ab 6 (nD Ab) (nuV B e s)) 10 3 (Ab 10 3 + 1) 2 t = Ab 2 t := rfl; rw [e4]; omega⟩, this.2.2.2⟩
          · rw [enD] at hd
            rw [up_ne (show ¬ (6 = 10 ∧ d = 3) by omega)]
            by_cases q : d = nD Ab
            · subst q; rw [up_eq]; exact nk.2
            · rw [up_ne (by omega)]; exact a8 d (by omega)
    · unfold rdM
      rw [if_neg (fun y => z y.1)]
      exact hpl.tf tf1

  · exact h.elim