theorem P_X6_readPerson {J : JT} {Q : QT} (R : R_X6_readPerson J Q) {as : List Vl} {M : Mem} (h : nf G_X6_readPerson as M Q) : (enL as).length ≤ 4 ∧ J 0 (padL 4 (enL as)) [] M := by
  unfold nf G_X6_readPerson at h
  split at h
  · rename_i k tp
    obtain ⟨Ab, B, e, s, rfl, hpl, ts, hQ⟩ := h
    refine ⟨Nat.le_of_ble_eq_true rfl, R_X6_readPerson_0 R (an o1 (use_num (by decide) ts (fun M0 r0 tf0 ts0 hr0 => an o1 (use_num (by decide) ts0 (fun M1 r1 tf2 ts1 hr1 => an o1 (use_snd ts1 (fun z => bf (by decide) (an (pl_ob hpl.1) ?_)) (fun z => bt rfl (R_X6_readPerson_61 R (hQ M1 (RF.tf (tf0.tr tf2)) ?_ ts1)))))))))⟩
    · have tf1 := tf0.tr tf2
      have r := hr1 z
      have nk := nu_ok z
      have rr := hr0 nk.1
      have nk0 := nu_ok nk.1
      obtain ⟨hk, hp, ho⟩ := hpl.tf tf1
      have k3 := pl_3a hk
      subst r rr
      have e8 : M1 k 0 = Ab 10 1 := hp.1
      have d3 := ho.1
      refine br (fun g => R_X6_readPerson_61 R (hQ M1 (RF.tf tf1) ?_ ts1)) (fun g => an (pl_ob hk) (an (pl_ob hk) (an ?_ (an (pl_ob hk) (an (pl_ob hk) ?_)))))
      · have g : (10 : Int) ≤ M1 k 0 := g
        unfold rpM
        rw [if_neg (by omega)]
        exact hpl.tf tf1
      · have g : ¬ (10 : Int) ≤ M1 k 0 := g
        show AK 1 (k + 1) (M1 k 0)
        exact ak_of (pl_1 hk) (by omega) (by omega)
      · have g : ¬ (10 : Int) ≤ M1 k 0 := g
        have en : (M1 k 0).toNat = nP Ab := by unfold nP; omega
        have ef : f_add (M1 k 0) 1 = Ab 10 1 + 1 := by rw [e8]; exact w1 (by omega) (by omega) rfl
        generalize hM2 : up M1 (k + 1) (M1 k 0).toNat (nuV B e s) = M2
        have m2 : M2 k 0 = M1 k 0 := by rw [← hM2, up_ne (by omega)]
        refine an (show AK 1 (k + 2) (M2 k 0) by rw [m2]; exact ak_of (pl_2 hk) (by omega) (by omega)) (an (pl_ob hk) (an (pl_ob hk) ?_))
        rw [m2]
        generalize hM3 : up M2 (k + 2) (M1 k 0).toNat (nuV B e (nuT B e 0 3 s)) = M3
        have m3 : M3 k 0 = M1 k 0 := by rw [← hM3, up_ne (by omega)]; exact m2
        rw [m3, ef]
        clear ef
        rw [en] at hM2 hM3
        have o3 : ∀ u v, ¬ (u = k + 1 ∧ v = nP Ab) → ¬ (u = k + 2 ∧ v = nP Ab) → M3 u v = M1 u v := fun u v q1 q2 => by rw [← hM3, up_ne (by omega), ← hM2, up_ne (by omega)]
        have a3 : M3 (k + 1) (nP Ab) = nuV B e s := by rw [← hM3, up_ne (by omega), ← hM2, up_eq]
        have b3 : M3 (k + 2) (nP Ab) = nuV B e (nuT B e 0 3 s) := by rw [← hM3, up_eq]
        refine R_X6_readPerson_61 R (hQ _ (fun u v q1 q2 => by rw [up_ne (by omega), o3 _ _ (by omega) (by omega)]; exact tf1 u v q2) ?_ (ts1.kept (fun u v hu => by rw [up_ne (by omega), o3 _ _ (by omega) (by omega)])))
        unfold rpM
        rw [if_pos ⟨z, by omega⟩]
        generalize hA : up (up (up Ab 4 (nP Ab) (nuV B e s)) 5 (nP Ab) (nuV B e (nuT B e 0 3 s))) 10 1 (Ab 10 1 + 1) = Ab2
        have oA : ∀ u v, ¬ (u = 4 ∧ v = nP Ab) → ¬ (u = 5 ∧ v = nP Ab) → ¬ (u = 10 ∧ v = 1) → Ab2 u v = Ab u v := fun u v q1 q2 q3 => by rw [← hA, up_ne (by omega), up_ne (by omega), up_ne (by omega)]
        have A4 : Ab2 4 (nP Ab) = nuV B e s := by rw [← hA, up_ne (by omega), up_ne (by omega), up_eq]
        have A5 : Ab2 5 (nP Ab) = nuV B e (nuT B e 0 3 s) := by rw [← hA, up_ne (by omega), up_eq]
        have A10 : Ab2 10 1 = Ab 10 1 + 1 := by rw [← hA, up_eq]
        have enP : nP Ab2 = nP Ab + 1 := by unfold nP; rw [A10]; omega
        have c10 : ∀ v, v ≠ 1 → Ab2 10 v = Ab 10 v := fun v hv => oA _ _ (by omega) (by omega) (by omega)
        have cX : ∀ u v, u ≠ 4 → u ≠ 5 → u ≠ 10 → Ab2 u v = Ab u v := fun u v h1 h2 h3 => oA _ _ (by omega) (by omega) (by omega)
        have eT : nT Ab2 = nT Ab := by unfold nT; rw [c10 2 (by decide)]
        have eD : nD Ab2 = nD Ab := by unfold nD; rw [c10 3 (by decide)]
        have eM : nM Ab2 = nM Ab := by unfold nM; rw [c10 4 (by decide)]
        refine ⟨hk, ⟨?_, ?_, ?_, ?_, ?_, fun p hp2 => ?_, fun p hp2 => ?_, fun p hp2 => ?_, fun p hp2 => ?_⟩, ?_⟩
        · rw [up_eq, A10]
        · rw [up_ne (by omega), o3 _ _ (by omega) (by omega), c10 2 (by decide)]; exact hp.2.1
        · rw [up_ne (by omega), o3 _ _ (by omega) (by omega), c10 3 (by decide)]; exact hp.2.2.1
        · rw [up_ne (by omega), o3 _ _ (by omega) (by omega), c10 4 (by decide)]; exact hp.2.2.2.1
        · rw [up_ne (by omega), o3 _ _ (by omega) (by omega), c10 0 (by decide)]; exact hp.2.2.2.2.1
        · rw [enP] at hp2
          rw [up_ne (by omega), up_ne (by omega)]
          by_cases q : p = nP Ab
          · subst q; rw [a3, b3, A4, A5]; exact ⟨rfl, rfl⟩
          · rw [o3 _ _ (by omega) (by omega), o3 _ _ (by omega) (by omega), oA _ _ (by omega) (by omega) (by omega), oA _ _ (by omega) (by omega) (by omega)]; exact hp.2.2.2.2.2.1 p (by omega)
        · rw [eT] at hp2
          rw [up_ne (by omega), up_ne (by omega), up_ne (by omega), up_ne (by omega), o3 _ _ (by omega) (by omega), o3 _ _ (by omega) (by omega), o3 _ _ (by omega) (by omega), o3 _ _ (by omega) (by omega), cX 0 _ (by decide) (by decide) (by decide), cX 1 _ (by decide) (by decide) (by decide), cX 2 _ (by decide) (by decide) (by decide), cX 3 _ (by decide) (by decide) (by decide)]; exact hp.2.2.2.2.2.2.1 p hp2
        · rw [eD] at hp2
          rw [up_ne (by omega), o3 _ _ (by omega) (by omega), cX 6 _ (by decide) (by decide) (by decide)]; exact hp.2.2.2.2.2.2.2.1 p hp2
        · rw [eM] at hp2
          rw [up_ne (by omega), up_ne (by omega), up_ne (by omega), o3 _ _ (by omega) (by omega), o3 _ _ (by omega) (by omega), o3 _ _ (by omega) (by omega), cX 7 _ (by decide) (by decide) (by decide), cX 8 _ (by decide) (by decide) (by decide), cX 9 _ (by decide) (by decide) (by decide)]; exact hp.2.2.2.2.2.2.2.2 p hp2
        · obtain ⟨a1, a2, a3', a4, a5, a6, a7, a8, a9⟩ := ho
          refine ⟨?_, ?_, ?_, ?_, ?_, fun p hp2 => ?_, fun t ht => ?_, fun d hd => ?_, fun m hm => ?_⟩
          · rw [A10]; omega
          · rw [c10 2 (by decide)]; exact a2
          · rw [c10 3 (by decide)]; exact a3'
          · rw [c10 4 (by decide)]; exact a4
          · rw [c10 0 (by decide)]; exact a5
          · rw [enP] at hp2
            by_cases q : p = nP Ab
            · subst q; rw [A4, A5]; exact ⟨nk0.2, nk.2⟩
            · rw [oA _ _ (by omega) (by omega) (by omega), oA _ _ (by omega) (by omega) (by omega)]; exact a6 p (by omega)
          · rw [eT] at ht
            rw [cX 0 _ (by decide) (by decide) (by decide), cX 1 _ (by decide) (by decide) (by decide), cX 2 _ (by decide) (by decide) (by decide), cX 3 _ (by decide) (by decide) (by decide), A10, c10 3 (by decide)]
            have := a7 t ht
            exact ⟨⟨this.1.1, by omega⟩, this.2⟩
          · rw [eD] at hd
            rw [cX 6 _ (by decide) (by decide) (by decide)]; exact a8 d hd
          · rw [eM] at hm
            rw [cX 7 _ (by decide) (by decide) (by decide), cX 8 _ (by decide) (by decide) (by decide), cX 9 _ (by decide) (by decide) (by decide), enP]
            have := a9 m hm
            have e2 : (2 : Int) ^ (nP Ab + 1) = 2 ^ nP Ab * 2 := Int.pow_succ _ _
            rw [e2]
            exact ⟨this.1, ⟨this.2.1.1, by omega⟩, ⟨this.2.2.1, by omega⟩⟩
    · unfold rpM
      rw [if_neg (fun y => z y.1)]
      exact hpl.tf (tf0.tr tf2)

  · exact h.elim