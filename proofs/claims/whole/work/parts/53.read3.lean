def th1 (B : Nat → Int) (e : Nat) (Ab : Mem) (s : Tp) : Tp := nuT B e 0 (Ab 10 1 - 1) s
def th2 (B : Nat → Int) (e : Nat) (Ab : Mem) (s : Tp) : Tp := nuT B e 1 99 (th1 B e Ab s)
def th3 (B : Nat → Int) (e : Nat) (Ab : Mem) (o : Int) (s : Tp) : Tp := if o = 0 then th2 B e Ab s else nuT B e 0 (Ab 10 3 - 1) (th2 B e Ab s)
def th4 (B : Nat → Int) (e : Nat) (Ab : Mem) (o : Int) (s : Tp) : Tp := if o = 0 then th2 B e Ab s else nuT B e 0 99 (th3 B e Ab o s)
def thD (B : Nat → Int) (e : Nat) (Ab : Mem) (o : Int) (s : Tp) : Int := if o = 0 then -1 else nuV B e (th2 B e Ab s)
def thS (B : Nat → Int) (e : Nat) (Ab : Mem) (o : Int) (s : Tp) : Int := if o = 0 then 0 else nuV B e (th3 B e Ab o s)
def rtM (B : Nat → Int) (e : Nat) (Ab : Mem) (o : Int) (s : Tp) : Mem := if (th4 B e Ab o s).2.2.1 = 0 ∧ Ab 10 2 < 14 then up (up (up (up (up Ab 0 (nT Ab) (nuV B e s)) 1 (nT Ab) (nuV B e (th1 B e Ab s))) 2 (nT Ab) (thD B e Ab o s)) 3 (nT Ab) (thS B e Ab o s)) 10 2 (Ab 10 2 + 1) else Ab
def G_X6_readThing : FN := fun as M Q => match as with
  | [.inr (.inl k), .inr (.inl tp), .inl o] => ∃ Ab B e s, tp = 1 ∧ PL M k Ab ∧ TSs M B e s ∧ ∀ M', RF k M M' → PL M' k (rtM B e Ab o s) → TSs M' B e (th4 B e Ab o s) → Q none M'
  | _ => False
def b_X6_readThing_0 : List AT := [tx_al 1, tx_ic 0, tx_al 0, tx_gi 6 0, tx_ic 1, tx_bin f_sub, tx_callv 9 (nf G_X9_readNumber) 2, tx_is 3, tx_al 1, tx_ic 1, tx_ic 99, tx_callv 9 (nf G_X9_readNumber) 2, tx_is 4, tx_il 2, tx_ifz r_eq 39, tx_al 1, tx_ic 0, tx_al 0, tx_gi 6 8, tx_ic 1, tx_bin f_sub, tx_callv 9 (nf G_X9_readNumber) 2, tx_fall 40]
def b_X6_readThing_39 : List AT := [tx_ic (-1), tx_fall 40]
def b_X6_readThing_40 : List AT := [tx_is 5, tx_il 2, tx_ifz r_eq 56, tx_al 1, tx_ic 0, tx_ic 99, tx_callv 9 (nf G_X9_readNumber) 2, tx_fall 57]
def b_X6_readThing_56 : List AT := [tx_ic 0, tx_fall 57]
def b_X6_readThing_57 : List AT := tx_is 6 :: tx_al 1 :: tx_callv 9 (nf G_X9_isSound) 0 :: tx_ifz r_eq 128 :: tx_al 0 :: tx_gi 6 3 :: tx_ic 14 :: tx_cmp r_ge 128 :: tx_al 0 :: tx_gr 6 3 :: tx_al 0 :: tx_gi 6 3 :: tx_il 3 :: tx_iax :: tx_al 0 :: tx_gr 6 4 :: tx_al 0 :: tx_gi 6 3 :: tx_il 4 :: tx_iax :: tx_al 0 :: tx_gr 6 5 :: tx_al 0 :: tx_gi 6 3 :: tx_il 5 :: tx_iax :: tx_al 0 :: tx_gr 6 6 :: tx_al 0 :: tx_gi 6 3 :: tx_il 6 :: tx_iax :: tx_al 0 :: tx_dup :: tx_gi 6 3 :: tx_ic 1 :: tx_bin f_add :: tx_pi 6 3 :: tx_fall 128 :: []
def b_X6_readThing_128 : List AT := [tx_rv]
def R_X6_readThing (J : JT) (Q : QT) : Prop := (∀ ls st M, wpl J Q b_X6_readThing_0 ls st M → J 0 ls st M) ∧ (∀ ls st M, wpl J Q b_X6_readThing_39 ls st M → J 39 ls st M) ∧ (∀ ls st M, wpl J Q b_X6_readThing_40 ls st M → J 40 ls st M) ∧ (∀ ls st M, wpl J Q b_X6_readThing_56 ls st M → J 56 ls st M) ∧ (∀ ls st M, wpl J Q b_X6_readThing_57 ls st M → J 57 ls st M) ∧ (∀ ls st M, wpl J Q b_X6_readThing_128 ls st M → J 128 ls st M)
theorem R_X6_readThing_0 {J : JT} {Q : QT} (R : R_X6_readThing J Q) {ls : Ls} {st : St} {M : Mem} (h : wpl J Q b_X6_readThing_0 ls st M) : J 0 ls st M := R.1 ls st M h
theorem R_X6_readThing_39 {J : JT} {Q : QT} (R : R_X6_readThing J Q) {ls : Ls} {st : St} {M : Mem} (h : wpl J Q b_X6_readThing_39 ls st M) : J 39 ls st M := R.2.1 ls st M h
theorem R_X6_readThing_40 {J : JT} {Q : QT} (R : R_X6_readThing J Q) {ls : Ls} {st : St} {M : Mem} (h : wpl J Q b_X6_readThing_40 ls st M) : J 40 ls st M := R.2.2.1 ls st M h
theorem R_X6_readThing_56 {J : JT} {Q : QT} (R : R_X6_readThing J Q) {ls : Ls} {st : St} {M : Mem} (h : wpl J Q b_X6_readThing_56 ls st M) : J 56 ls st M := R.2.2.2.1 ls st M h
theorem R_X6_readThing_57 {J : JT} {Q : QT} (R : R_X6_readThing J Q) {ls : Ls} {st : St} {M : Mem} (h : wpl J Q b_X6_readThing_57 ls st M) : J 57 ls st M := R.2.2.2.2.1 ls st M h
theorem R_X6_readThing_128 {J : JT} {Q : QT} (R : R_X6_readThing J Q) {ls : Ls} {st : St} {M : Mem} (h : wpl J Q b_X6_readThing_128 ls st M) : J 128 ls st M := R.2.2.2.2.2 ls st M h
theorem P_X6_readThing {J : JT} {Q : QT} (R : R_X6_readThing J Q) {as : List Vl} {M : Mem} (h : nf G_X6_readThing as M Q) : (enL as).length ≤ 7 ∧ J 0 (padL 7 (enL as)) [] M := by
  unfold nf G_X6_readThing at h
  split at h
  · rename_i k tp o
    obtain ⟨Ab, B, e, s, rfl, hpl, ts, hQ⟩ := h
    obtain ⟨hk, hp, ho⟩ := hpl
    have k3 := pl_3a hk
    have n10 := ho.1
    have t14 := ho.2.1
    have d3 := ho.2.2.1
    have at57 : ∀ (M1 : Mem) (r0 r1 dv sv : Int) (z : Option Vl), TF M M1 → TSs M1 B e (th4 B e Ab o s) → ((th4 B e Ab o s).2.2.1 = 0 → r0 = nuV B e s ∧ r1 = nuV B e (th1 B e Ab s) ∧ dv = thD B e Ab o s ∧ sv = thS B e Ab o s ∧ (0 ≤ r0 ∧ r0 < Ab 10 1) ∧ (1 ≤ r1 ∧ r1 ≤ 99) ∧ (-1 ≤ dv ∧ dv < Ab 10 3) ∧ 0 ≤ sv ∧ sv ≤ 99) → J 57 [some (vR k), some (vR 1), some (vI o), some (vI r0), some (vI r1), some (vI dv), z] [vI sv] M1 := by
      intro M1 r0 r1 dv sv zz tf1 ts1 hr
      have hp1 : PlanRel M1 k Ab := hp.kept (fun u v q1 q2 => tf1 u v (by omega))
      have e8 : M1 k 3 = Ab 10 2 := hp1.2.1
      refine R_X6_readThing_57 R (an o1 (use_snd ts1 (fun z => bf (by decide) (an (pl_ob hk) ?_)) (fun z => bt rfl (R_X6_readThing_128 R (hQ M1 (RF.tf tf1) ?_ ts1)))))
      · obtain ⟨g0, g1, g2, g3, b0, b1, b2, b3⟩ := hr z
        refine br (fun g => R_X6_readThing_128 R (hQ M1 (RF.tf tf1) ?_ ts1)) (fun g => an (pl_ob hk) (an (pl_ob hk) (an ?_ (an (pl_ob hk) (an (pl_ob hk) ?_)))))
        · have g : (14 : Int) ≤ M1 k 3 := g
          unfold rtM
          rw [if_neg (by omega)]
          exact ⟨hk, hp1, ho⟩
        · have g : ¬ (14 : Int) ≤ M1 k 3 := g
          show AK 1 (k + 3) (M1 k 3)
          exact ak_of (pl_3 hk) (by omega) (by omega)
        · have g : ¬ (14 : Int) ≤ M1 k 3 := g
          have en : (M1 k 3).toNat = nT Ab := by unfold nT; omega
          have ef : f_add (M1 k 3) 1 = Ab 10 2 + 1 := by rw [e8]; exact w1 (by omega) (by omega) rfl
          generalize hM2 : up M1 (k + 3) (M1 k 3).toNat r0 = M2
          have m2 : M2 k 3 = M1 k 3 := by rw [← hM2, up_ne (by omega)]
          refine an (show AK 1 (k + 4) (M2 k 3) by rw [m2]; exact ak_of (pl_4 hk) (by omega) (by omega)) (an (pl_ob hk) (an (pl_ob hk) ?_))
          rw [m2]
          generalize hM3 : up M2 (k + 4) (M1 k 3).toNat r1 = M3
          have m3 : M3 k 3 = M1 k 3 := by rw [← hM3, up_ne (by omega)]; exact m2
          refine an (show AK 1 (k + 5) (M3 k 3) by rw [m3]; exact ak_of (pl_5 hk) (by omega) (by omega)) (an (pl_ob hk) (an (pl_ob hk) ?_))
          rw [m3]
          generalize hM4 : up M3 (k + 5) (M1 k 3).toNat dv = M4
          have m4 : M4 k 3 = M1 k 3 := by rw [← hM4, up_ne (by omega)]; exact m3
          refine an (show AK 1 (k + 6) (M4 k 3) by rw [m4]; exact ak_of (pl_6 hk) (by omega) (by omega)) (an (pl_ob hk) (an (pl_ob hk) ?_))
          rw [m4]
          generalize hM5 : up M4 (k + 6) (M1 k 3).toNat sv = M5
          have m5 : M5 k 3 = M1 k 3 := by rw [← hM5, up_ne (by omega)]; exact m4
          rw [m5, ef]
          clear ef
          rw [en] at hM2 hM3 hM4 hM5
          have o3 : ∀ u v, ¬ (k + 3 ≤ u ∧ u ≤ k + 6 ∧ v = nT Ab) → M5 u v = M1 u v := fun u v q1 => by rw [← hM5, up_ne (by omega), ← hM4, up_ne (by omega), ← hM3, up_ne (by omega), ← hM2, up_ne (by omega)]
          have v3 : M5 (k + 3) (nT Ab) = r0 := by rw [← hM5, up_ne (by omega), ← hM4, up_ne (by omega), ← hM3, up_ne (by omega), ← hM2, up_eq]
          have v4 : M5 (k + 4) (nT Ab) = r1 := by rw [← hM5, up_ne (by omega), ← hM4, up_ne (by omega), ← hM3, up_eq]
          have v5 : M5 (k + 5) (nT Ab) = dv := by rw [← hM5, up_ne (by omega), ← hM4, up_eq]
          have v6 : M5 (k + 6) (nT Ab) = sv := by rw [← hM5, up_eq]
          refine R_X6_readThing_128 R (hQ _ (fun u v q1 q2 => by rw [up_ne (by omega), o3 _ _ (by omega)]; exact tf1 u v q2) ?_ (ts1.kept (fun u v hu => by rw [up_ne (by omega), o3 _ _ (by omega)])))
          unfold rtM
          rw [if_pos ⟨z, by omega⟩, ← g0, ← g1, ← g2, ← g3]
          generalize hA : up (up (up (up (up Ab 0 (nT Ab) r0) 1 (nT Ab) r1) 2 (nT Ab) dv) 3 (nT Ab) sv) 10 2 (Ab 10 2 + 1) = Ab2
          have oA : ∀ u v, ¬ (u ≤ 3 ∧ v = nT Ab) → ¬ (u = 10 ∧ v = 2) → Ab2 u v = Ab u v := fun u v q1 q2 => by rw [← hA, up_ne (by omega), up_ne (by omega), up_ne (by omega), up_ne (by omega), up_ne (by omega)]
          have A0 : Ab2 0 (nT Ab) = r0 := by rw [← hA, up_ne (by omega), up_ne (by omega), up_ne (by omega), up_ne (by omega), up_eq]
          have A1 : Ab2 1 (nT Ab) = r1 := by rw [← hA, up_ne (by omega), up_ne (by omega), up_ne (by omega), up_eq]
          have A2 : Ab2 2 (nT Ab) = dv := by rw [← hA, up_ne (by omega), up_ne (by omega), up_eq]
          have A3 : Ab2 3 (nT Ab) = sv := by rw [← hA, up_ne (by omega), up_eq]
          have A10 : Ab2 10 2 = Ab 10 2 + 1 := by rw [← hA, up_eq]
          have enT : nT Ab2 = nT Ab + 1 := by unfold nT; rw [A10]; omega
          have c10 : ∀ v, v ≠ 2 → Ab2 10 v = Ab 10 v := fun v hv => oA _ _ (by omega) (by omega)
          have cX : ∀ u v, 4 ≤ u → u ≤ 9 → Ab2 u v = Ab u v := fun u v h1 h2 => oA _ _ (by omega) (by omega)
          have eP : nP Ab2 = nP Ab := by unfold nP; rw [c10 1 (by decide)]
          have eD : nD Ab2 = nD Ab := by unfold nD; rw [c10 3 (by decide)]
          have eM : nM Ab2 = nM Ab := by unfold nM; rw [c10 4 (by decide)]
          refine ⟨hk, ⟨?_, ?_, ?_, ?_, ?_, fun p hp2 => ?_, fun p hp2 => ?_, fun p hp2 => ?_, fun p hp2 => ?_⟩, ?_⟩
          · rw [up_ne (by omega), o3 _ _ (by omega), c10 1 (by decide)]; exact hp1.1
          · rw [up_eq, A10]
          · rw [up_ne (by omega), o3 _ _ (by omega), c10 3 (by decide)]; exact hp1.2.2.1
          · rw [up_ne (by omega), o3 _ _ (by omega), c10 4 (by decide)]; exact hp1.2.2.2.1
          · rw [up_ne (by omega), o3 _ _ (by omega), c10 0 (by decide)]; exact hp1.2.2.2.2.1
          · rw [eP] at hp2
            rw [up_ne (by omega), up_ne (by omega), o3 _ _ (by omega), o3 _ _ (by omega), cX 4 _ (by decide) (by decide), cX 5 _ (by decide) (by decide)]; exact hp1.2.2.2.2.2.1 p hp2
          · rw [enT] at hp2
            rw [up_ne (by omega), up_ne (by omega), up_ne (by omega), up_ne (by omega)]
            by_cases q : p = nT Ab
            · subst q; rw [v3, v4, v5, v6, A0, A1, A2, A3]; exact ⟨rfl, rfl, rfl, rfl⟩
            · rw [o3 _ _ (by omega), o3 _ _ (by omega), o3 _ _ (by omega), o3 _ _ (by omega), oA 0 _ (by omega) (by omega), oA 1 _ (by omega) (by omega), oA 2 _ (by omega) (by omega), oA 3 _ (by omega) (by omega)]; exact hp1.2.2.2.2.2.2.1 p (by omega)
          · rw [eD] at hp2
            rw [up_ne (by omega), o3 _ _ (by omega), cX 6 _ (by decide) (by decide)]; exact hp1.2.2.2.2.2.2.2.1 p hp2
          · rw [eM] at hp2
            rw [up_ne (by omega), up_ne (by omega), up_ne (by omega), o3 _ _ (by omega), o3 _ _ (by omega), o3 _ _ (by omega), cX 7 _ (by decide) (by decide), cX 8 _ (by decide) (by decide), cX 9 _ (by decide) (by decide)]; exact hp1.2.2.2.2.2.2.2.2 p hp2
          · obtain ⟨a1, a2, a3', a4, a5, a6, a7, a8, a9⟩ := ho
            refine ⟨?_, ?_, ?_, ?_, ?_, fun p hp2 => ?_, fun t ht => ?_, fun d hd => ?_, fun m hm => ?_⟩
            · rw [c10 1 (by decide)]; exact a1
            · rw [A10]; omega
            · rw [c10 3 (by decide)]; exact a3'
            · rw [c10 4 (by decide)]; exact a4
            · rw [c10 0 (by decide)]; exact a5
            · rw [eP] at hp2
              rw [cX 4 _ (by decide) (by decide), cX 5 _ (by decide) (by decide)]; exact a6 p hp2
            · rw [enT] at ht
              rw [c10 1 (by decide), c10 3 (by decide)]
              by_cases q : t = nT Ab
              · subst q; rw [A0, A1, A2, A3]; exact ⟨b0, b1, b2, b3⟩
              · rw [oA 0 _ (by omega) (by omega), oA 1 _ (by omega) (by omega), oA 2 _ (by omega) (by omega), oA 3 _ (by omega) (by omega)]; exact a7 t (by omega)
            · rw [eD] at hd
              rw [cX 6 _ (by decide) (by decide)]; exact a8 d hd
            · rw [eM] at hm
              rw [cX 7 _ (by decide) (by decide), cX 8 _ (by decide) (by decide), cX 9 _ (by decide) (by decide), eP]; exact a9 m hm
      · unfold rtM
        rw [if_neg (fun y => z y.1)]
        exact ⟨hk, hp1, ho⟩
    have ep : f_sub (M k 0) 1 = Ab 10 1 - 1 := by rw [hp.1]; exact w1 (by omega) (by omega) rfl
    refine ⟨Nat.le_of_ble_eq_true rfl, R_X6_readThing_0 R (an (pl_ob hk) ?_)⟩
    show OB 1 9 ∧ nf G_X9_readNumber [.inr (.inl 1), .inl 0, .inl (f_sub (M k 0) 1)] M _
    rw [ep]
    clear ep
    refine an o1 (use_num (by omega) ts (fun M1 r0 tf1 ts1 hr0 => an o1 (use_num (by decide) ts1 (fun M2 r1 tf2 ts2 hr1 => ?_))))
    have tf12 := tf1.tr tf2
    have hp2 : PlanRel M2 k Ab := hp.kept (fun u v q1 q2 => tf12 u v (by omega))
    refine br (fun q => R_X6_readThing_39 R (R_X6_readThing_40 R (bt q (R_X6_readThing_56 R (at57 M2 r0 r1 (-1) 0 _ tf12 ?_ (fun z => ?_)))))) (fun q => an (pl_ob hk) ?_)
    · have q : o = 0 := q
      unfold th4; rw [if_pos q]; exact ts2
    · have q : o = 0 := q
      unfold th4 at z
      rw [if_pos q] at z
      have n1 := nu_ok z
      have n0 := nu_ok n1.1
      have x0 := hr0 n1.1
      have x1 := hr1 z
      refine ⟨x0, x1, by unfold thD; rw [if_pos q], by unfold thS; rw [if_pos q], ?_, ?_, ⟨by omega, by omega⟩, by omega, by omega⟩
      · rw [x0]; have := n0.2; omega
      · rw [x1]; exact n1.2
    · have q : ¬ o = 0 := q
      have ed : f_sub (M2 k 8) 1 = Ab 10 3 - 1 := by rw [hp2.2.2.1]; exact w1 (by omega) (by omega) rfl
      show OB 1 9 ∧ nf G_X9_readNumber [.inr (.inl 1), .inl 0, .inl (f_sub (M2 k 8) 1)] M2 _
      rw [ed]
      clear ed
      refine an o1 (use_num (by omega) ts2 (fun M3 r2 tf3 ts3 hr2 => R_X6_readThing_40 R (bf q (an o1 (use_num (by decide) ts3 (fun M4 r3 tf4 ts4 hr3 => at57 M4 r0 r1 r2 r3 _ (tf12.tr (tf3.tr tf4)) ?_ (fun z => ?_)))))))
      · unfold th4 th3; rw [if_neg q, if_neg q]; exact ts4
      · unfold th4 th3 at z
        rw [if_neg q, if_neg q] at z
        have n3 := nu_ok z
        have n2 := nu_ok n3.1
        have n1 := nu_ok n2.1
        have n0 := nu_ok n1.1
        have x0 := hr0 n1.1
        have x1 := hr1 n2.1
        have x2 := hr2 n3.1
        have x3 := hr3 z
        refine ⟨x0, x1, by unfold thD; rw [if_neg q]; exact x2, by unfold thS th3; rw [if_neg q, if_neg q]; exact x3, ?_, ?_, ?_, ?_⟩
        · rw [x0]; have := n0.2; omega
        · rw [x1]; exact n1.2
        · rw [x2]
          have n22 : 0 ≤ nuV B e (nuT B e 1 99 (nuT B e 0 (Ab 10 1 - 1) s)) ∧ nuV B e (nuT B e 1 99 (nuT B e 0 (Ab 10 1 - 1) s)) ≤ Ab 10 3 - 1 := n2.2
          omega
        · rw [x3]; exact n3.2

  · exact h.elim