noncomputable def loW (B : Nat → Int) (e n : Nat) (s : Tp) : Tp := if ¬ tf (wdP B s.2.1 s.1 6) = true then reT 1 s else if n = 0 then reT 3 s else s
/-- a text of lendings; so many more may come -/
noncomputable def llS (B : Nat → Int) (e : Nat) : Nat → Mem × Tp → Mem × Tp
  | 0, x => x
  | n + 1, x => if hmB B e x.2 = true then llS B e n (rloM B e x.1 (loW B e n (wdT B e (hmT B e x.2))), stT B e (lo5 B e x.1 (loW B e n (wdT B e (hmT B e x.2))))) else (x.1, hmT B e x.2)
def G_X5_readFrom : FN := fun as M Q => match as with
  | [.inr (.inl k), .inr (.inl tp), .inr (.inl pl)] => ∃ Ab B e s, tp = 1 ∧ (((k = 25 ∨ k = 30) ∧ (pl = 3 ∨ pl = 14)) ∧ PL M pl Ab) ∧ TSs M B e s ∧ ∀ M', LF k M M' → LoSt M' k pl (llS B e 21 (up Ab 10 5 0, s)).1 → TSs M' B e (llS B e 21 (up Ab 10 5 0, s)).2 → Q none M'
  | _ => False
def b_X5_readFrom_0 (sx : Nat → Nat) : List AT := [tx_al 0, tx_ic 0, tx_pi 5 0, tx_ic 0, tx_is 3, tx_fall 7]
def b_X5_readFrom_7 (sx : Nat → Nat) : List AT := [tx_il 3, tx_ic 20, tx_cmp r_gt 68, tx_al 1, tx_callv 9 (nf G_X9_hasMore) 0, tx_ifz r_eq 68, tx_al 1, tx_callv 9 (nf G_X9_readWord) 0, tx_al 1, tx_oc (sx 6), tx_callv 9 (nf (G_X9_wordIs sx)) 1, tx_ifz r_ne 41, tx_al 1, tx_ic 1, tx_callv 9 (nf G_X9_refuse) 1, tx_fall 52]
def b_X5_readFrom_41 (sx : Nat → Nat) : List AT := [tx_il 3, tx_ic 20, tx_cmp r_lt 52, tx_al 1, tx_ic 3, tx_callv 9 (nf G_X9_refuse) 1, tx_fall 52]
def b_X5_readFrom_52 (sx : Nat → Nat) : List AT := [tx_al 0, tx_al 1, tx_al 2, tx_callv 5 (nf G_X5_readLoan) 2, tx_al 1, tx_callv 9 (nf G_X9_readStop) 0, tx_inc 3 1, tx_fall 7]
def b_X5_readFrom_68 (sx : Nat → Nat) : List AT := [tx_rv]
def R_X5_readFrom (sx : Nat → Nat) (J : JT) (Q : QT) : Prop := (∀ ls st M, wpl J Q (b_X5_readFrom_0 sx) ls st M → J 0 ls st M) ∧ (∀ ls st M, wpl J Q (b_X5_readFrom_7 sx) ls st M → J 7 ls st M) ∧ (∀ ls st M, wpl J Q (b_X5_readFrom_41 sx) ls st M → J 41 ls st M) ∧ (∀ ls st M, wpl J Q (b_X5_readFrom_52 sx) ls st M → J 52 ls st M) ∧ (∀ ls st M, wpl J Q (b_X5_readFrom_68 sx) ls st M → J 68 ls st M)
theorem R_X5_readFrom_0 {sx : Nat → Nat} {J : JT} {Q : QT} (R : R_X5_readFrom sx J Q) {ls : Ls} {st : St} {M : Mem} (h : wpl J Q (b_X5_readFrom_0 sx) ls st M) : J 0 ls st M := R.1 ls st M h
theorem R_X5_readFrom_7 {sx : Nat → Nat} {J : JT} {Q : QT} (R : R_X5_readFrom sx J Q) {ls : Ls} {st : St} {M : Mem} (h : wpl J Q (b_X5_readFrom_7 sx) ls st M) : J 7 ls st M := R.2.1 ls st M h
theorem R_X5_readFrom_41 {sx : Nat → Nat} {J : JT} {Q : QT} (R : R_X5_readFrom sx J Q) {ls : Ls} {st : St} {M : Mem} (h : wpl J Q (b_X5_readFrom_41 sx) ls st M) : J 41 ls st M := R.2.2.1 ls st M h
theorem R_X5_readFrom_52 {sx : Nat → Nat} {J : JT} {Q : QT} (R : R_X5_readFrom sx J Q) {ls : Ls} {st : St} {M : Mem} (h : wpl J Q (b_X5_readFrom_52 sx) ls st M) : J 52 ls st M := R.2.2.2.1 ls st M h
theorem R_X5_readFrom_68 {sx : Nat → Nat} {J : JT} {Q : QT} (R : R_X5_readFrom sx J Q) {ls : Ls} {st : St} {M : Mem} (h : wpl J Q (b_X5_readFrom_68 sx) ls st M) : J 68 ls st M := R.2.2.2.2 ls st M h
theorem LF.tf {k : Nat} {M M' : Mem} (tf : TF M M') : LF k M M' := fun u v _ h => tf u v h
theorem LF.tr {k : Nat} {M M1 M2 : Mem} (h1 : LF k M M1) (h2 : LF k M1 M2) : LF k M M2 := fun u v q1 q2 => (h2 u v q1 q2).trans (h1 u v q1 q2)
theorem P_X5_readFrom {sx : Nat → Nat} {J : JT} {Q : QT} (R : R_X5_readFrom sx J Q) {as : List Vl} {M : Mem} (h : nf G_X5_readFrom as M Q) : (enL as).length ≤ 4 ∧ J 0 (padL 4 (enL as)) [] M := by
  unfold nf G_X5_readFrom at h
  split at h
  · rename_i k tp pl
    obtain ⟨Ab, B, e, s, rfl, ⟨kk, hpl⟩, ts, hQ⟩ := h
    have hlk : LoanAt k := by rcases kk.1 with rfl | rfl <;> simp [LoanAt]
    have key : ∀ c : Nat, c ≤ 21 → ∀ (x : Int) (M' : Mem) (a : Mem × Tp), x = (c : Int) → LF k M M' → LoSt M' k pl a.1 → TSs M' B e a.2 → llS B e (21 - c) a = llS B e 21 (up Ab 10 5 0, s) → J 7 [some (vR k), some (vR 1), some (vR pl), some (vI x)] [] M' := by
      have fin : ∀ (x : Int) (M' : Mem) (a : Mem × Tp), LF k M M' → LoSt M' k pl a.1 → TSs M' B e a.2 → a = llS B e 21 (up Ab 10 5 0, s) → J 68 [some (vR k), some (vR 1), some (vR pl), some (vI x)] [] M' := fun x M' a h1 h2 h3 h4 => R_X5_readFrom_68 R (by rw [h4] at h2 h3; exact hQ M' h1 h2 h3)
      refine dn ?_ ?_
      · intro x M' a hx h1 h2 h3 h4
        exact R_X5_readFrom_7 R (bt (show (20 : Int) < x by omega) (fin x M' a h1 h2 h3 h4))
      · intro c hc ih x M' a hx h1 h2 h3 h4
        have e1 : 21 - c = 20 - c + 1 := by omega
        rw [e1, llS] at h4
        have go : ∀ (M1 : Mem), hmB B e a.2 = true → TF M' M1 → TSs M1 B e (loW B e (20 - c) (wdT B e (hmT B e a.2))) → J 52 [some (vR k), some (vR 1), some (vR pl), some (vI x)] [] M1 := by
          intro M1 hm tf1 ts1
          rw [if_pos hm] at h4
          refine R_X5_readFrom_52 R (an (lo_ob hlk) ⟨a.1, B, e, _, rfl, h2.tf tf1, ts1, fun M2 rf2 pl2 ts2 => an o1 (use_st ts2 (fun M3 tf3 ts3 => ih _ M3 (_, _) (wn hx (by omega)) ((h1.tr (LF.tf tf1)).tr (rf2.tr (LF.tf tf3))) (pl2.tf tf3) ts3 ?_))⟩)
          rw [show 21 - (c + 1) = 20 - c by omega]
          exact h4
        refine R_X5_readFrom_7 R (bf (show ¬ (20 : Int) < x by omega) (an o1 (use_more h3 (fun hm M1 tf1 ts1 => bf (by decide) (an o1 (use_rw ts1 (fun M2 tf2 ts2 => an o1 (use_wd (i := 6) (by decide) ts2 (fun y => bt (by decide) (R_X5_readFrom_41 R (br (fun g => go M2 hm (tf1.tr tf2) ?_) (fun g => an o1 (use_ref ts2 (fun M3 tf3 ts3 => go M3 hm (tf1.tr (tf2.tr tf3)) ?_)))))) (fun y => bf (by decide) (an o1 (use_ref ts2 (fun M3 tf3 ts3 => go M3 hm (tf1.tr (tf2.tr tf3)) ?_))))))))) (fun hm M1 tf1 ts1 => bt rfl ?_))))
        · have g : x < 20 := g
          unfold loW
          rw [if_neg (fun q => q y), if_neg (by omega)]
          exact ts2
        · have g : ¬ x < 20 := g
          unfold loW
          rw [if_neg (fun q => q y), if_pos (by omega)]
          exact ts3
        · unfold loW
          rw [if_pos y]
          exact ts3
        · rw [if_neg hm] at h4
          exact fin x M1 (a.1, hmT B e a.2) (h1.tr (LF.tf tf1)) (h2.tf tf1) ts1 h4
    refine ⟨Nat.le_of_ble_eq_true rfl, R_X5_readFrom_0 R (an (lo_ob hlk) (key 0 (by decide) _ _ (up Ab 10 5 0, s) rfl (fun u v q1 q2 => up_ne (by omega)) ⟨kk, ?_, ?_, ?_⟩ (ts.kept (fun u v hu => up_ne (by omega))) rfl))⟩
    · have p2 := hpl.ab (Ab2 := up Ab 10 5 0) (fun u v hu => up_ne (by omega)) (fun v hv => up_ne (by omega))
      exact ⟨p2.1, p2.2.1.kept (fun u v q1 q2 => up_ne (by omega)), p2.2.2⟩
    · show LoanRel (up M k 0 0) k (up Ab 10 5 0) 11 (up Ab 10 5 0 10 5)
      rw [show up Ab 10 5 0 10 5 = 0 from up_eq]
      exact ⟨up_eq, fun i hi => absurd hi (Nat.not_lt_zero _)⟩
    · show LoanOK (up Ab 10 5 0) 11 (up Ab 10 5 0 10 5)
      rw [show up Ab 10 5 0 10 5 = 0 from up_eq]
      exact ⟨by decide, fun i hi => absurd hi (Nat.not_lt_zero _)⟩

  · exact h.elim