/-- the reference's sitting: who holds a thing, by which lending, strength, the minute of being spent; of a thing that is left out only that no lending has it -/
def RS (M Ab : Mem) (wo : Int) (σ : Mem) : Prop :=
  (∀ t, t < nT Ab → ((t : Int) ≠ wo → M 292 t = σ 0 t ∧ M 293 t = σ 1 t) ∧ ((t : Int) = wo → M 293 t = -1 ∧ σ 0 t = -2)) ∧ ∀ p, p < nP Ab → M 295 p = σ 2 p ∧ M 296 p = σ 3 p
def G_X11_begins : FN := fun as M Q => match as with
  | [.inr (.inl k)] => ∃ Ab, k = 159 ∧ MdP M Ab ∧ ∀ M' : Mem, (∀ u v, (u < 292 ∨ 296 < u) → M' u v = M u v) → RT M' Ab (M 159 35) (nT Ab) → RS M' Ab (M 159 35) (sit0 Ab (M 159 35)) → Q none M'
  | _ => False
def G_X11_comesTo : FN := fun as M Q => match as with
  | [.inr (.inl k), .inl t, .inl p] => (k = 159 ∧ 0 ≤ t ∧ t < 14 ∧ 0 ≤ p ∧ p < 10) ∧ Q none (up (up M 292 t.toNat (if M 296 p.toNat = -1 then p else -1)) 293 t.toNat (-1))
  | _ => False
def G_X11_root : FN := fun as M Q => match as with
  | [.inl n] => (0 ≤ n ∧ n ≤ 1386) ∧ Q (some (vI (rootN n.toNat : Nat))) M
  | _ => False
def b_X11_begins_0 : List AT := [tx_al 0, tx_callv 11 (nf G_X11_laysDoors) 0, tx_ic 0, tx_is 1, tx_fall 6]
def b_X11_begins_6 : List AT := tx_il 1 :: tx_al 0 :: tx_gr 11 4 :: tx_ic 0 :: tx_ia :: tx_cmp r_ge 46 :: tx_al 0 :: tx_gr 11 136 :: tx_il 1 :: tx_ic 60 :: tx_al 0 :: tx_gr 11 16 :: tx_il 1 :: tx_aa 5 :: tx_ic 1 :: tx_ia :: tx_bin f_mul :: tx_iax :: tx_al 0 :: tx_gr 11 137 :: tx_il 1 :: tx_ic (-1) :: tx_iax :: tx_inc 1 1 :: tx_fall 6 :: []
def b_X11_begins_46 : List AT := [tx_ic 0, tx_is 1, tx_fall 48]
def b_X11_begins_48 : List AT := [tx_il 1, tx_al 0, tx_gr 11 4, tx_ic 1, tx_ia, tx_cmp r_ge 102, tx_al 0, tx_gr 11 133, tx_il 1, tx_al 0, tx_gr 11 42, tx_il 1, tx_aa 5, tx_ic 2, tx_ia, tx_ic (-1), tx_cmp r_ne 86, tx_al 0, tx_gr 11 42, tx_il 1, tx_aa 5, tx_ic 0, tx_ia, tx_fall 88]
def b_X11_begins_86 : List AT := [tx_ic (-2), tx_fall 88]
def b_X11_begins_88 : List AT := [tx_iax, tx_al 0, tx_gr 11 134, tx_il 1, tx_ic (-1), tx_iax, tx_inc 1 1, tx_fall 48]
def b_X11_begins_102 : List AT := [tx_rv]
def R_X11_begins (J : JT) (Q : QT) : Prop := (∀ ls st M, wpl J Q b_X11_begins_0 ls st M → J 0 ls st M) ∧ (∀ ls st M, wpl J Q b_X11_begins_6 ls st M → J 6 ls st M) ∧ (∀ ls st M, wpl J Q b_X11_begins_46 ls st M → J 46 ls st M) ∧ (∀ ls st M, wpl J Q b_X11_begins_48 ls st M → J 48 ls st M) ∧ (∀ ls st M, wpl J Q b_X11_begins_86 ls st M → J 86 ls st M) ∧ (∀ ls st M, wpl J Q b_X11_begins_88 ls st M → J 88 ls st M) ∧ (∀ ls st M, wpl J Q b_X11_begins_102 ls st M → J 102 ls st M)
theorem R_X11_begins_0 {J : JT} {Q : QT} (R : R_X11_begins J Q) {ls : Ls} {st : St} {M : Mem} (h : wpl J Q b_X11_begins_0 ls st M) : J 0 ls st M := R.1 ls st M h
theorem R_X11_begins_6 {J : JT} {Q : QT} (R : R_X11_begins J Q) {ls : Ls} {st : St} {M : Mem} (h : wpl J Q b_X11_begins_6 ls st M) : J 6 ls st M := R.2.1 ls st M h
theorem R_X11_begins_46 {J : JT} {Q : QT} (R : R_X11_begins J Q) {ls : Ls} {st : St} {M : Mem} (h : wpl J Q b_X11_begins_46 ls st M) : J 46 ls st M := R.2.2.1 ls st M h
theorem R_X11_begins_48 {J : JT} {Q : QT} (R : R_X11_begins J Q) {ls : Ls} {st : St} {M : Mem} (h : wpl J Q b_X11_begins_48 ls st M) : J 48 ls st M := R.2.2.2.1 ls st M h
theorem R_X11_begins_86 {J : JT} {Q : QT} (R : R_X11_begins J Q) {ls : Ls} {st : St} {M : Mem} (h : wpl J Q b_X11_begins_86 ls st M) : J 86 ls st M := R.2.2.2.2.1 ls st M h
theorem R_X11_begins_88 {J : JT} {Q : QT} (R : R_X11_begins J Q) {ls : Ls} {st : St} {M : Mem} (h : wpl J Q b_X11_begins_88 ls st M) : J 88 ls st M := R.2.2.2.2.2.1 ls st M h
theorem R_X11_begins_102 {J : JT} {Q : QT} (R : R_X11_begins J Q) {ls : Ls} {st : St} {M : Mem} (h : wpl J Q b_X11_begins_102 ls st M) : J 102 ls st M := R.2.2.2.2.2.2 ls st M h
def b_X11_comesTo_0 : List AT := [tx_al 0, tx_gr 11 133, tx_il 1, tx_al 0, tx_gr 11 137, tx_il 2, tx_ia, tx_ic (-1), tx_cmp r_ne 19, tx_il 2, tx_fall 20]
def b_X11_comesTo_19 : List AT := [tx_ic (-1), tx_fall 20]
def b_X11_comesTo_20 : List AT := [tx_iax, tx_al 0, tx_gr 11 134, tx_il 1, tx_ic (-1), tx_iax, tx_rv]
def R_X11_comesTo (J : JT) (Q : QT) : Prop := (∀ ls st M, wpl J Q b_X11_comesTo_0 ls st M → J 0 ls st M) ∧ (∀ ls st M, wpl J Q b_X11_comesTo_19 ls st M → J 19 ls st M) ∧ (∀ ls st M, wpl J Q b_X11_comesTo_20 ls st M → J 20 ls st M)
theorem R_X11_comesTo_0 {J : JT} {Q : QT} (R : R_X11_comesTo J Q) {ls : Ls} {st : St} {M : Mem} (h : wpl J Q b_X11_comesTo_0 ls st M) : J 0 ls st M := R.1 ls st M h
theorem R_X11_comesTo_19 {J : JT} {Q : QT} (R : R_X11_comesTo J Q) {ls : Ls} {st : St} {M : Mem} (h : wpl J Q b_X11_comesTo_19 ls st M) : J 19 ls st M := R.2.1 ls st M h
theorem R_X11_comesTo_20 {J : JT} {Q : QT} (R : R_X11_comesTo J Q) {ls : Ls} {st : St} {M : Mem} (h : wpl J Q b_X11_comesTo_20 ls st M) : J 20 ls st M := R.2.2 ls st M h
def b_X11_root_0 : List AT := [tx_ic 0, tx_is 1, tx_fall 2]
def b_X11_root_2 : List AT := [tx_il 1, tx_ic 1, tx_bin f_add, tx_il 1, tx_ic 1, tx_bin f_add, tx_bin f_mul, tx_il 0, tx_cmp r_gt 19, tx_inc 1 1, tx_fall 2]
def b_X11_root_19 : List AT := [tx_il 1, tx_ri]
def R_X11_root (J : JT) (Q : QT) : Prop := (∀ ls st M, wpl J Q b_X11_root_0 ls st M → J 0 ls st M) ∧ (∀ ls st M, wpl J Q b_X11_root_2 ls st M → J 2 ls st M) ∧ (∀ ls st M, wpl J Q b_X11_root_19 ls st M → J 19 ls st M)
theorem R_X11_root_0 {J : JT} {Q : QT} (R : R_X11_root J Q) {ls : Ls} {st : St} {M : Mem} (h : wpl J Q b_X11_root_0 ls st M) : J 0 ls st M := R.1 ls st M h
theorem R_X11_root_2 {J : JT} {Q : QT} (R : R_X11_root J Q) {ls : Ls} {st : St} {M : Mem} (h : wpl J Q b_X11_root_2 ls st M) : J 2 ls st M := R.2.1 ls st M h
theorem R_X11_root_19 {J : JT} {Q : QT} (R : R_X11_root J Q) {ls : Ls} {st : St} {M : Mem} (h : wpl J Q b_X11_root_19 ls st M) : J 19 ls st M := R.2.2 ls st M h
theorem P_X11_comesTo {J : JT} {Q : QT} (R : R_X11_comesTo J Q) {as : List Vl} {M : Mem} (h : nf G_X11_comesTo as M Q) : (enL as).length ≤ 3 ∧ J 0 (padL 3 (enL as)) [] M := by
  unfold nf G_X11_comesTo at h
  split at h
  · rename_i k t p
    obtain ⟨⟨rfl, t0, t1, p0, p1⟩, hQ⟩ := h
    have fin : ∀ v : Int, v = (if M 296 p.toNat = -1 then p else -1) → J 20 [some (vR 159), some (vI t), some (vI p)] [vI v, vI t, vR 292] M := by
      intro v hv
      rw [← hv] at hQ
      exact R_X11_comesTo_20 R (an (ak_of sh292 t0 (by omega)) (an o159 (an (ak_of sh293 t0 (by omega)) hQ)))
    refine ⟨Nat.le_of_ble_eq_true rfl, R_X11_comesTo_0 R (an o159 (an o159 (an (ak_of sh296 p0 (by omega)) (br (fun g => R_X11_comesTo_19 R (fin _ ?_)) (fun g => fin _ ?_)))))⟩
    · exact (if_neg g).symm
    · exact (if_pos (Classical.not_not.mp g)).symm
  · exact h.elim
theorem P_X11_root {J : JT} {Q : QT} (R : R_X11_root J Q) {as : List Vl} {M : Mem} (h : nf G_X11_root as M Q) : (enL as).length ≤ 2 ∧ J 0 (padL 2 (enL as)) [] M := by
  unfold nf G_X11_root at h
  split at h
  · rename_i n
    obtain ⟨⟨n0, n1⟩, hQ⟩ := h
    have sq : ∀ r : Nat, r ≤ 40 → f_mul (f_add (r : Int) 1) (f_add (r : Int) 1) = (((r + 1) * (r + 1) : Nat) : Int) := by
      intro r hr
      have e1 : f_add (r : Int) 1 = ((r + 1 : Nat) : Int) := w1 (by omega) (by omega) (by omega)
      have h1 : (r + 1) * (r + 1) ≤ 41 * 41 := Nat.mul_le_mul (by omega) (by omega)
      have e2 : (((r + 1 : Nat) : Int) * ((r + 1 : Nat) : Int)) = (((r + 1) * (r + 1) : Nat) : Int) := by rw [Int.natCast_mul]
      rw [e1]
      show w32 (((r + 1 : Nat) : Int) * ((r + 1 : Nat) : Int)) = _
      rw [e2]
      exact w32_id ⟨by omega, by omega⟩
    have key : ∀ d r : Nat, d + r = 40 → r * r ≤ n.toNat → ∀ y : Int, y = (r : Int) → J 2 [some (vI n), some (vI y)] [] M := by
      intro d
      induction d with
      | zero =>
        intro r hd hr y hy
        have : r = 40 := by omega
        subst this
        have he : rootN n.toNat = 40 := rootF_eq (f := 40) (r := 40) (Nat.le_refl _) hr (Or.inl rfl)
        rw [he] at hQ
        have e := sq 40 (Nat.le_refl _)
        rw [← hy] at e
        rw [← hy] at hQ
        exact R_X11_root_2 R (bt (show n < f_mul (f_add y 1) (f_add y 1) by rw [e]; omega) (R_X11_root_19 R hQ))
      | succ d ih =>
        intro r hd hr y hy
        have e := sq r (by omega)
        rw [← hy] at e
        by_cases hc : (r + 1) * (r + 1) ≤ n.toNat
        · have hlt : ¬ n < f_mul (f_add y 1) (f_add y 1) := by rw [e]; omega
          clear e
          exact R_X11_root_2 R (bf hlt (ih (r + 1) (by omega) hc _ (wn hy (by omega))))
        · have hlt : n < f_mul (f_add y 1) (f_add y 1) := by rw [e]; omega
          have he : rootN n.toNat = r := rootF_eq (f := 40) (r := r) (by omega) hr (Or.inr (by omega))
          rw [he, ← hy] at hQ
          exact R_X11_root_2 R (bt hlt (R_X11_root_19 R hQ))
    exact ⟨Nat.le_of_ble_eq_true rfl, R_X11_root_0 R (key 40 0 rfl (Nat.zero_le _) 0 rfl)⟩
  · exact h.elim
theorem P_X11_begins {J : JT} {Q : QT} (R : R_X11_begins J Q) {as : List Vl} {M : Mem} (h : nf G_X11_begins as M Q) : (enL as).length ≤ 2 ∧ J 0 (padL 2 (enL as)) [] M := by
  unfold nf G_X11_begins at h
  split at h
  · rename_i k
    obtain ⟨Ab, rfl, hm, hQ⟩ := h
    have ho := hm.1
    obtain ⟨n1, n2⟩ := nT_le ho
    obtain ⟨p1, p2⟩ := nP_le ho
    generalize hwo : M 159 35 = wo at hQ
    have key2 : ∀ i, i ≤ nT Ab → ∀ (x : Int) (M' : Mem), x = (i : Int) → (∀ u v, (u < 292 ∨ 296 < u) → M' u v = M u v) → RT M' Ab wo (nT Ab) → (∀ p, p < nP Ab → M' 295 p = 60 * Ab 5 p ∧ M' 296 p = -1) → (∀ t, t < i → M' 292 t = (if Ab 2 t = -1 then Ab 0 t else -2) ∧ M' 293 t = -1) → J 48 [some (vR 159), some (vI x)] [] M' := by
      refine dn ?_ ?_
      · intro x M' hx hf hr hp ht
        have hm' : MdP M' Ab := hm.kept (fun u v q1 q2 => hf u v (by omega))
        refine R_X11_begins_48 R (an o159 (an (ak_of sh163 (by decide) (by decide)) (bt (show M' 163 1 ≤ x by rw [hm'.2.1.2.1]; omega) (R_X11_begins_102 R (hQ M' hf hr ⟨fun t htt => ⟨fun hw => ⟨?_, ?_⟩, fun hw => ⟨(ht t htt).2, ?_⟩⟩, fun p hp' => ?_⟩)))))
        · rw [(ht t htt).1]
          show _ = (if Ab 2 t = -1 ∧ (t : Int) ≠ wo then Ab 0 t else -2)
          exact if_iff ⟨fun z => ⟨z, hw⟩, fun z => z.1⟩
        · rw [(ht t htt).2]; rfl
        · show (if Ab 2 t = -1 ∧ (t : Int) ≠ wo then Ab 0 t else -2) = -2
          rw [if_neg (fun z => z.2 hw)]
        · rw [(hp p hp').1, (hp p hp').2]
          exact ⟨rfl, rfl⟩
      · intro i hi ih x M' hx hf hr hp ht
        have hxn : x.toNat = i := by omega
        have hm' : MdP M' Ab := hm.kept (fun u v q1 q2 => hf u v (by omega))
        obtain ⟨t0, t1, t2, t3⟩ := hm'.2.2.2.1 i hi
        have fin : ∀ v : Int, v = (if Ab 2 i = -1 then Ab 0 i else -2) → J 88 [some (vR 159), some (vI x)] [vI v, vI x, vR 292] M' := by
          intro v hv
          refine R_X11_begins_88 R (an (ak_of sh292 (by omega) (by omega)) (an o159 (an (ak_of sh293 (by omega) (by omega)) (ih _ _ (wn hx (by omega)) (fun u v hu => ?_) (fun t htt hw => ?_) (fun p hp' => ?_) (fun t htt => ?_)))))
          · rw [up_ne (by omega), up_ne (by omega)]; exact hf u v hu
          · rw [up_ne (by omega), up_ne (by omega)]; exact hr t htt hw
          · rw [up_ne (by omega), up_ne (by omega), up_ne (by omega), up_ne (by omega)]; exact hp p hp'
          · rw [hxn]
            by_cases e : t = i
            · subst e
              rw [up_ne (by omega), up_eq, up_eq]
              exact ⟨hv, rfl⟩
            · rw [up_ne (by omega), up_ne (by omega), up_ne (by omega), up_ne (by omega)]
              exact ht t (by omega)
        refine R_X11_begins_48 R (an o159 (an (ak_of sh163 (by decide) (by decide)) (bf (show ¬ M' 163 1 ≤ x by rw [hm'.2.1.2.1]; omega) (an o159 (an o159 (an (ak_of sh201 (by omega) (by omega)) ?_))))))
        rw [th_row hxn]
        refine an (ak_of (sh_th i (by omega)) (by decide) (by decide)) ?_
        rw [show M' (202 + i) (Int.toNat 2) = Ab 2 i from t2]
        refine br (fun g => R_X11_begins_86 R (fin _ (if_neg g).symm)) (fun g => an o159 (an (ak_of sh201 (by omega) (by omega)) ?_))
        rw [th_row hxn]
        refine an (ak_of (sh_th i (by omega)) (by decide) (by decide)) (fin _ ?_)
        rw [if_pos (Classical.not_not.mp g)]
        exact t0
    have key1 : ∀ i, i ≤ nP Ab → ∀ (x : Int) (M' : Mem), x = (i : Int) → (∀ u v, (u < 292 ∨ 296 < u) → M' u v = M u v) → RT M' Ab wo (nT Ab) → (∀ p, p < i → M' 295 p = 60 * Ab 5 p ∧ M' 296 p = -1) → J 6 [some (vR 159), some (vI x)] [] M' := by
      refine dn ?_ ?_
      · intro x M' hx hf hr hp
        have hm' : MdP M' Ab := hm.kept (fun u v q1 q2 => hf u v (by omega))
        exact R_X11_begins_6 R (an o159 (an (ak_of sh163 (by decide) (by decide)) (bt (show M' 163 0 ≤ x by rw [hm'.2.1.1]; omega) (R_X11_begins_46 R (key2 0 (Nat.zero_le _) _ _ rfl hf hr hp (fun t ht => absurd ht (Nat.not_lt_zero t)))))))
      · intro i hi ih x M' hx hf hr hp
        have hxn : x.toNat = i := by omega
        have hm' : MdP M' Ab := hm.kept (fun u v q1 q2 => hf u v (by omega))
        have pe := (hm'.2.2.1 i hi).2
        have pb := (ho.2.2.2.2.2.1 i hi).2
        refine R_X11_begins_6 R (an o159 (an (ak_of sh163 (by decide) (by decide)) (bf (show ¬ M' 163 0 ≤ x by rw [hm'.2.1.1]; omega) (an o159 (an o159 (an (ak_of sh175 (by omega) (by omega)) ?_))))))
        rw [pe_row hxn]
        refine an (ak_of (sh_pe i (by omega)) (by decide) (by decide)) (an (ak_of sh295 (by omega) (by omega)) (an o159 (an (ak_of sh296 (by omega) (by omega)) (ih _ _ (wn hx (by omega)) (fun u v hu => ?_) (fun t htt hw => ?_) (fun p hp' => ?_)))))
        · rw [up_ne (by omega), up_ne (by omega)]; exact hf u v hu
        · rw [up_ne (by omega), up_ne (by omega)]; exact hr t htt hw
        · rw [hxn]
          by_cases e : p = i
          · subst e
            rw [up_ne (by omega), up_eq, up_eq, show M' (176 + p) (Int.toNat 1) = Ab 5 p from pe]
            exact ⟨w1 (by omega) (by omega) rfl, rfl⟩
          · rw [up_ne (by omega), up_ne (by omega), up_ne (by omega), up_ne (by omega)]
            exact hp p (by omega)
    exact ⟨Nat.le_of_ble_eq_true rfl, R_X11_begins_0 R (an o159 ⟨Ab, rfl, hm, fun M' h1 h2 => key1 0 (Nat.zero_le _) _ _ rfl (fun u v hu => h1 u v (by omega)) (by rw [hwo] at h2; exact h2) (fun p hp => absurd hp (Nat.not_lt_zero p))⟩)⟩

  · exact h.elim