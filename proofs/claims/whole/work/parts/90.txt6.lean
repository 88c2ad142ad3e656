def G_X11_readsMotion : FN := fun as M Q => match as with
  | [.inr (.inl k), .inr (.inl row)] => ∃ B e s Ab, (k = 159 ∧ row = 217 + nM Ab ∧ Ab 10 4 < 8 ∧ s.2.2.1 = 0) ∧ TRs M B e s ∧ RdP M Ab ∧ ∀ M' : Mem, CFr M M' → M' 159 7 = M 159 7 → TRs M' B e (mo4 B e Ab s) → ((mo4 B e Ab s).2.2.1 = 0 → RdP M' (rmM B e Ab s)) → Q none M'
  | _ => False
def b_X11_readsMotion_0 : List AT := tx_ic 1 :: tx_al 0 :: tx_gr 11 3 :: tx_ic 0 :: tx_ia :: tx_bin shlI :: tx_ic 1 :: tx_bin f_sub :: tx_is 2 :: tx_al 1 :: tx_ic 0 :: tx_al 0 :: tx_ic 0 :: tx_ic 119 :: tx_callv 11 (nf G_X11_number) 2 :: tx_iax :: tx_al 1 :: tx_ic 1 :: tx_al 0 :: tx_ic 0 :: tx_il 2 :: tx_callv 11 (nf G_X11_number) 2 :: tx_iax :: tx_al 0 :: tx_callv 11 (nf G_X11_blanks) 0 :: tx_al 0 :: tx_gi 11 4 :: tx_is 3 :: tx_al 1 :: tx_ic 2 :: tx_al 0 :: tx_ic 0 :: tx_il 2 :: tx_callv 11 (nf G_X11_number) 2 :: tx_iax :: tx_al 1 :: tx_ic 1 :: tx_ia :: tx_al 1 :: tx_ic 2 :: tx_ia :: tx_bin andI :: tx_ifz r_eq 64 :: tx_al 0 :: tx_ic 2 :: tx_il 3 :: tx_callv 11 (nf G_X11_wrong) 2 :: tx_fall 64 :: []
def b_X11_readsMotion_64 : List AT := [tx_al 0, tx_gr 11 3, tx_ic 3, tx_dup2, tx_ia, tx_ic 1, tx_bin f_add, tx_iax, tx_rv]
def R_X11_readsMotion (J : JT) (Q : QT) : Prop := (∀ ls st M, wpl J Q b_X11_readsMotion_0 ls st M → J 0 ls st M) ∧ (∀ ls st M, wpl J Q b_X11_readsMotion_64 ls st M → J 64 ls st M)
theorem R_X11_readsMotion_0 {J : JT} {Q : QT} (R : R_X11_readsMotion J Q) {ls : Ls} {st : St} {M : Mem} (h : wpl J Q b_X11_readsMotion_0 ls st M) : J 0 ls st M := R.1 ls st M h
theorem R_X11_readsMotion_64 {J : JT} {Q : QT} (R : R_X11_readsMotion J Q) {ls : Ls} {st : St} {M : Mem} (h : wpl J Q b_X11_readsMotion_64 ls st M) : J 64 ls st M := R.2 ls st M h
theorem re_no {kd : Int} {s : Tp} (h : ¬ s.2.2.1 = 0) : reT kd s = s := by
  unfold reT rfK rfP
  rw [if_neg h, if_neg h]
theorem P_X11_readsMotion {J : JT} {Q : QT} (R : R_X11_readsMotion J Q) {as : List Vl} {M : Mem} (h : nf G_X11_readsMotion as M Q) : (enL as).length ≤ 4 ∧ J 0 (padL 4 (enL as)) [] M := by
  unfold nf G_X11_readsMotion at h
  split at h
  · rename_i k row
    obtain ⟨B, e, s, Ab, ⟨rfl, rfl, m8, sf⟩, ts, hr, hQ⟩ := h
    have ho := hr.1
    obtain ⟨m1, m2⟩ := nM_le ho
    obtain ⟨p1, p2⟩ := nP_le ho
    have n8 : nM Ab < 8 := by omega
    have rw3 : SH (217 + nM Ab) = (1, 3, 0, 0) := sh_rm _ n8
    have ab1 : allB Ab < 100000 := by
      have := p10 p1
      unfold allB; omega
    have eall : f_sub (shlI 1 (Ab 10 1)) 1 = allB Ab := by rw [← p2]; exact sh1 _ (by omega)
    refine ⟨Nat.le_of_ble_eq_true rfl, R_X11_readsMotion_0 R (an o159 (an (ak_of sh162 (by decide) (by decide)) ?_))⟩
    rw [show M (159 + 3) (Int.toNat 0) = Ab 10 1 from hr.2.1.1]
    -- the end
    have fin : ∀ (M5 : Mem) (x3 : Option Vl) (v0 v1 v2 : Int), CFr M M5 → (∀ u v, RdC u → ¬ u = 217 + nM Ab → M5 u v = M u v) → M5 159 7 = M 159 7 → M5 (217 + nM Ab) 0 = v0 → M5 (217 + nM Ab) 1 = v1 → M5 (217 + nM Ab) 2 = v2 → TRs M5 B e (mo4 B e Ab s) → ((mo4 B e Ab s).2.2.1 = 0 → v0 = nuV B e s ∧ v1 = nuV B e (mo1 B e s) ∧ v2 = nuV B e (mo2 B e Ab s)) → J 64 [some (vR 159), some (vR (217 + nM Ab)), some (vI (f_sub (shlI 1 (Ab 10 1)) 1)), x3] [] M5 := by
      intro M5 x3 v0 v1 v2 cf fr e7 e0 e1 e2 ts5 hv
      have r3 : M5 162 3 = Ab 10 4 := (fr _ _ (by unfold RdC; omega) (by omega)).trans hr.2.1.2.2.2.1
      have ei : f_add (M5 162 3) 1 = Ab 10 4 + 1 := by rw [r3]; have := ho.2.2.2.1; exact w1 (by omega) (by omega) rfl
      refine R_X11_readsMotion_64 R (an o159 (an (ak_of sh162 (by decide) (by decide)) (an (ak_of sh162 (by decide) (by decide)) ?_)))
      show Q (.inl none) (up M5 162 3 (f_add (M5 162 3) 1))
      rw [ei]
      refine hQ _ (cf.tr (CFr.up (by unfold RdC; omega))) (by rw [up_ne (by omega)]; exact e7) (ts5.up (by omega)) (fun z => ?_)
      obtain ⟨q0, q1, q2⟩ := hv z
      have hok := rm_ok (B := B) (e := e) (s := s) ho
      unfold rmM at hok ⊢
      rw [if_pos ⟨z, m8⟩] at hok ⊢
      refine RdP_m hr hok (fun u v a b c => ?_) (by rw [up_ne (by omega), e0]; exact q0) (by rw [up_ne (by omega), e1]; exact q1) (by rw [up_ne (by omega), e2]; exact q2) up_eq
      rw [up_ne c]; exact fr u v a b
    refine an o159 (r_num (by decide) ts (fun M1 r0 tf1 ts1 hr1 hz1 => an (ak_of rw3 (by decide) (by decide)) ?_))
    generalize hM2 : up M1 (217 + nM Ab) (Int.toNat 0) r0 = M2
    have ts2 : TRs M2 B e (mo1 B e s) := by rw [← hM2]; exact ts1.up (by omega)
    have cf2 : CFr M M2 := by rw [← hM2]; exact (CFr.tf tf1).tr (CFr.up (by unfold RdC; omega))
    have fr2 : ∀ u v, RdC u → ¬ u = 217 + nM Ab → M2 u v = M u v := fun u v a b => by rw [← hM2, up_ne (by omega)]; exact tf1 u v (by unfold RdC at a; omega)
    have s2 : M2 159 7 = M 159 7 := by rw [← hM2, up_ne (by omega)]; exact tf1 _ _ (by omega)
    have v2 : M2 (217 + nM Ab) 0 = r0 := by rw [← hM2]; exact up_eq
    refine an o159 (r_num (by rw [eall]; exact ab1) ts2 (fun M3 r1 tf3 ts3 hr3 hz3 => an (ak_of rw3 (by decide) (by decide)) ?_))
    rw [eall] at ts3 hr3 hz3
    generalize hM4 : up M3 (217 + nM Ab) (Int.toNat 1) r1 = M4
    have ts4 : TRs M4 B e (mo2 B e Ab s) := by rw [← hM4]; exact ts3.up (by omega)
    have cf4 : CFr M M4 := by rw [← hM4]; exact cf2.tr ((CFr.tf tf3).tr (CFr.up (by unfold RdC; omega)))
    have fr4 : ∀ u v, RdC u → ¬ u = 217 + nM Ab → M4 u v = M u v := fun u v a b => by rw [← hM4, up_ne (by omega), tf3 u v (by unfold RdC at a; omega)]; exact fr2 u v a b
    have s4 : M4 159 7 = M 159 7 := by rw [← hM4, up_ne (by omega), tf3 _ _ (by omega)]; exact s2
    have v40 : M4 (217 + nM Ab) 0 = r0 := by rw [← hM4, up_ne (by omega), tf3 _ _ (by omega)]; exact v2
    have v41 : M4 (217 + nM Ab) 1 = r1 := by rw [← hM4]; exact up_eq
    refine an o159 (r_bl ts4 (fun M5 tf5 ts5 => an o159 ?_))
    refine an o159 (r_num (by rw [eall]; exact ab1) ts5 (fun M6 r2 tf6 ts6 hr6 hz6 => an (ak_of rw3 (by decide) (by decide)) ?_))
    rw [eall] at ts6 hr6 hz6
    have here : (mo2 B e Ab s).2.2.1 = 0 → M5 159 4 = ((sk cBl B e (mo2 B e Ab s).1 : Nat) : Int) := fun z => ts5.at z
    -- by blanks nothing changes
    have pe : (mo2 B e Ab s).2.2.1 = 0 → (mo2 B e Ab s).1 ≤ e := fun z => by
      obtain ⟨p, tx, hp⟩ := ts4
      rw [← hp z]; exact tx.2.2.2.2.2.1
    have ts7 : TRs M6 B e (mo3 B e Ab s) := by
      by_cases z : (mo2 B e Ab s).2.2.1 = 0
      · rw [(sk_nu z (pe z)).1] at ts6; exact ts6
      · rw [nu_no (s := (sk cBl B e (mo2 B e Ab s).1, (mo2 B e Ab s).2)) z] at ts6
        unfold mo3
        rw [nu_no z]
        exact ts6.any z rfl
    have ok7 : (mo3 B e Ab s).2.2.1 = 0 → (mo2 B e Ab s).2.2.1 = 0 := fun z => (nu_ok z).1
    have rr2 : (mo3 B e Ab s).2.2.1 = 0 → r2 = nuV B e (mo2 B e Ab s) := fun z => by
      have z2 := ok7 z
      have := hr6 (by rw [(sk_nu z2 (pe z2)).1]; exact z)
      rw [(sk_nu (lo := 0) (hi := 0) z2 (pe z2)).2] at this
      exact this
    have rr1 : (mo3 B e Ab s).2.2.1 = 0 → r1 = nuV B e (mo1 B e s) := fun z => hr3 (ok7 z)
    have rr0 : (mo3 B e Ab s).2.2.1 = 0 → r0 = nuV B e s := fun z => hr1 (nu_ok (ok7 z)).1
    have h3 : (mo3 B e Ab s).2.2.1 = 0 → (mo3 B e Ab s).2.1 = sk cBl B e (mo2 B e Ab s).1 := fun z => by
      unfold mo3 nuT
      rw [if_pos (ok7 z)]
    clear ts6 hr6 hz6
    generalize hM7 : up M6 (217 + nM Ab) (Int.toNat 2) r2 = M7
    have ts8 : TRs M7 B e (mo3 B e Ab s) := by rw [← hM7]; exact ts7.up (by omega)
    have tf56 := tf5.tr tf6
    have cf7 : CFr M M7 := by rw [← hM7]; exact cf4.tr ((CFr.tf tf56).tr (CFr.up (by unfold RdC; omega)))
    have fr7 : ∀ u v, RdC u → ¬ u = 217 + nM Ab → M7 u v = M u v := fun u v a b => by rw [← hM7, up_ne (by omega), tf56 u v (by unfold RdC at a; omega)]; exact fr4 u v a b
    have s7 : M7 159 7 = M 159 7 := by rw [← hM7, up_ne (by omega), tf56 _ _ (by omega)]; exact s4
    have v70 : M7 (217 + nM Ab) 0 = r0 := by rw [← hM7, up_ne (by omega), tf56 _ _ (by omega)]; exact v40
    have v71 : M7 (217 + nM Ab) 1 = r1 := by rw [← hM7, up_ne (by omega), tf56 _ _ (by omega)]; exact v41
    have v72 : M7 (217 + nM Ab) 2 = r2 := by rw [← hM7]; exact up_eq
    refine an (ak_of rw3 (by decide) (by decide)) (an (ak_of rw3 (by decide) (by decide)) ?_)
    show (andI (M7 (217 + nM Ab) 1) (M7 (217 + nM Ab) 2) = 0 → _) ∧ (¬ andI (M7 (217 + nM Ab) 1) (M7 (217 + nM Ab) 2) = 0 → _)
    rw [v71, v72]
    have mo4e : ∀ c : Bool, moC B e Ab s = c → mo4 B e Ab s = if c = true then reT 2 (mo3 B e Ab s) else mo3 B e Ab s := fun c hc => by unfold mo4; rw [hc]
    have anz : (mo3 B e Ab s).2.2.1 = 0 → (andI r1 r2 = 0 ↔ moC B e Ab s = false) := fun z => by
      have n3 := nu_ok z
      have n2 := nu_ok n3.1
      have b3 : 0 ≤ r2 := by rw [rr2 z]; exact n3.2.1
      have b2 : 0 ≤ r1 ∧ r1 < 2147483648 := by rw [rr1 z]; exact ⟨n2.2.1, by have := n2.2.2; omega⟩
      have ea : andI r1 r2 = ((r1.toNat &&& r2.toNat : Nat) : Int) := by
        have := andI_n (a := r1.toNat) (b := r2.toNat) (by omega)
        rw [show ((r1.toNat : Nat) : Int) = r1 by omega, show ((r2.toNat : Nat) : Int) = r2 by omega] at this
        exact this
      unfold moC
      rw [ea, ← rr1 z, ← rr2 z, decide_eq_true z, Bool.true_and, decide_eq_false_iff_not, Classical.not_not]
      omega
    have noC : ¬ (mo3 B e Ab s).2.2.1 = 0 → moC B e Ab s = false := fun z => by unfold moC; rw [decide_eq_false z]; rfl
    refine br (fun g => fin M7 _ r0 r1 r2 cf7 fr7 s7 v70 v71 v72 ?_ ?_) (fun g => an o159 (r_wr ts8 (fun z => ?_) (by decide) (fun M8 tf8 ts9 => fin M8 _ r0 r1 r2 (cf7.tr (CFr.tf tf8)) (fun u v a b => ?_) ?_ ?_ ?_ ?_ ?_ (fun y => ?_))))
    · by_cases z : (mo3 B e Ab s).2.2.1 = 0
      · rw [mo4e false ((anz z).mp g), if_neg (by decide)]; exact ts8
      · rw [mo4e false (noC z), if_neg (by decide)]; exact ts8
    · intro y
      have z := mo4_ok y
      exact ⟨rr0 z, rr1 z, rr2 z⟩
    · rw [h3 z]
      exact here (ok7 z)
    · rw [tf8 u v (by unfold RdC at a; omega)]; exact fr7 u v a b
    · rw [tf8 _ _ (by omega)]; exact s7
    · rw [tf8 _ _ (by omega)]; exact v70
    · rw [tf8 _ _ (by omega)]; exact v71
    · rw [tf8 _ _ (by omega)]; exact v72
    · by_cases z : (mo3 B e Ab s).2.2.1 = 0
      · have hc : moC B e Ab s = true := by
          cases q : moC B e Ab s with
          | true => rfl
          | false => exact absurd ((anz z).mpr q) g
        rw [mo4e true hc, if_pos rfl]; exact ts9
      · rw [mo4e false (noC z), if_neg (by decide)]
        rw [re_no z] at ts9
        exact ts9
    · have z := mo4_ok y
      exact ⟨rr0 z, rr1 z, rr2 z⟩

  · exact h.elim