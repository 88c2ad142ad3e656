
def fcN : Nat → Int
  | 0 => 1
  | 1 => 1
  | n + 2 => ((n : Int) + 2) * fcN (n + 1)
def G_X11_factorial : FN := fun as M Q => match as with
  | [.inl n] => (0 ≤ n ∧ n ≤ 3) ∧ Q (some (vI (fcN n.toNat))) M
  | _ => False
def b_X11_factorial_0 : List AT := [tx_il 0, tx_ic 2, tx_cmp r_ge 9, tx_ic 1, tx_fall 17]
def b_X11_factorial_9 : List AT := [tx_il 0, tx_il 0, tx_ic 1, tx_bin f_sub, tx_call (nf G_X11_factorial) 1, tx_bin f_mul, tx_fall 17]
def b_X11_factorial_17 : List AT := [tx_ri]
def R_X11_factorial (J : JT) (Q : QT) : Prop := (∀ ls st M, wpl J Q b_X11_factorial_0 ls st M → J 0 ls st M) ∧ (∀ ls st M, wpl J Q b_X11_factorial_9 ls st M → J 9 ls st M) ∧ (∀ ls st M, wpl J Q b_X11_factorial_17 ls st M → J 17 ls st M)
theorem R_X11_factorial_0 {J : JT} {Q : QT} (R : R_X11_factorial J Q) {ls : Ls} {st : St} {M : Mem} (h : wpl J Q b_X11_factorial_0 ls st M) : J 0 ls st M := R.1 ls st M h
theorem R_X11_factorial_9 {J : JT} {Q : QT} (R : R_X11_factorial J Q) {ls : Ls} {st : St} {M : Mem} (h : wpl J Q b_X11_factorial_9 ls st M) : J 9 ls st M := R.2.1 ls st M h
theorem R_X11_factorial_17 {J : JT} {Q : QT} (R : R_X11_factorial J Q) {ls : Ls} {st : St} {M : Mem} (h : wpl J Q b_X11_factorial_17 ls st M) : J 17 ls st M := R.2.2 ls st M h
theorem P_X11_factorial {J : JT} {Q : QT} (R : R_X11_factorial J Q) {as : List Vl} {M : Mem} (h : nf G_X11_factorial as M Q) : (enL as).length ≤ 1 ∧ J 0 (padL 1 (enL as)) [] M := by
  unfold nf G_X11_factorial at h
  split at h
  · rename_i n
    obtain ⟨⟨n0, n3⟩, hQ⟩ := h
    refine ⟨Nat.le_of_ble_eq_true rfl, ?_⟩
    rcases (show n = 0 ∨ n = 1 ∨ n = 2 ∨ n = 3 by omega) with rfl | rfl | rfl | rfl
    · exact R_X11_factorial_0 R (bf (by decide) (R_X11_factorial_17 R hQ))
    · exact R_X11_factorial_0 R (bf (by decide) (R_X11_factorial_17 R hQ))
    · exact R_X11_factorial_0 R (bt (by decide) (R_X11_factorial_9 R ⟨by decide, R_X11_factorial_17 R hQ⟩))
    · exact R_X11_factorial_0 R (bt (by decide) (R_X11_factorial_9 R ⟨by decide, R_X11_factorial_17 R hQ⟩))
  · exact h.elim
theorem pop3 : ∀ s, s < 16 → ∀ q, q < 4 → s.testBit q = false → popc s ≤ 3 := by decide
theorem fc_ow : ∀ n, n ≤ 3 → f_mul (fcN n) (fcN (3 - n)) = owA n ∧ 0 ≤ owA n ∧ owA n ≤ 6 := by decide
theorem or16 : ∀ s, s < 16 → ∀ p, p < 4 → orI ((s : Nat) : Int) (shlI 1 ((p : Nat) : Int)) = ((s ||| 2 ^ p : Nat) : Int) ∧ s ||| 2 ^ p < 16 := by decide +kernel
theorem owA_bd (n : Nat) : 0 ≤ owA n ∧ owA n ≤ 6 := by unfold owA; split <;> decide
theorem ot_bd (Ab : Mem) (q : Nat) {n : Nat} (hn : n ≤ 16) : 0 ≤ sumN (fun s => if otC Ab q s = true then owA (popc s) else 0) n ∧ sumN (fun s => if otC Ab q s = true then owA (popc s) else 0) n ≤ 96 := by
  have h := sumN_bd (f := fun s => if otC Ab q s = true then owA (popc s) else 0) (c := 6) (by decide) (n := n) (fun i _ => by
    have := owA_bd (popc i)
    show 0 ≤ (if otC Ab q i = true then owA (popc i) else 0) ∧ (if otC Ab q i = true then owA (popc i) else 0) ≤ 6
    split <;> omega)
  omega

def G_X11_owed : FN := fun as M Q => match as with
  | [.inr (.inl k), .inl q, .inl pot, .inl w] => k = 159 ∧ mS cd1 (an_owed q pot w) M Q
  | _ => False
def b_X11_owed_0 : List AT := [tx_al 0, tx_ic 0, tx_pi 11 0, tx_al 0, tx_il 1, tx_ic 0, tx_ic 3, tx_call (nf G_X11_in) 3, tx_ifz r_eq 35, tx_il 2, tx_ic 0, tx_ic 9999, tx_call (nf G_X11_in) 3, tx_ifz r_eq 35, tx_il 3, tx_ic 0, tx_ic 1, tx_call (nf G_X11_in) 3, tx_ifz r_ne 39, tx_fall 35]
def b_X11_owed_35 : List AT := [tx_ic 1, tx_fall 40]
def b_X11_owed_39 : List AT := [tx_ic 0, tx_fall 40]
def b_X11_owed_40 : List AT := [tx_ic 1, tx_ic 1, tx_callv 11 (nf G_X11_bad) 3, tx_ifz r_eq 50, tx_ic 0, tx_ri]
def b_X11_owed_50 : List AT := [tx_ic 0, tx_is 4, tx_ic 24, tx_is 5, tx_ic 0, tx_is 6, tx_fall 60]
def b_X11_owed_60 : List AT := tx_il 6 :: tx_ic 16 :: tx_cmp r_ge 128 :: tx_il 6 :: tx_il 1 :: tx_bin shrI :: tx_ic 1 :: tx_bin andI :: tx_ifz r_ne 122 :: tx_al 0 :: tx_il 6 :: tx_callv 11 (nf G_X11_winsBy) 1 :: tx_ifz r_ne 122 :: tx_al 0 :: tx_il 6 :: tx_ic 1 :: tx_il 1 :: tx_bin shlI :: tx_bin orI :: tx_callv 11 (nf G_X11_winsBy) 1 :: tx_ifz r_eq 122 :: tx_il 4 :: tx_il 6 :: tx_call (nf G_X11_ones) 1 :: tx_call (nf G_X11_factorial) 1 :: tx_ic 3 :: tx_il 6 :: tx_call (nf G_X11_ones) 1 :: tx_bin f_sub :: tx_call (nf G_X11_factorial) 1 :: tx_bin f_mul :: tx_bin f_add :: tx_is 4 :: tx_fall 122 :: []
def b_X11_owed_122 : List AT := [tx_inc 6 1, tx_fall 60]
def b_X11_owed_128 : List AT := [tx_il 4, tx_il 2, tx_bin f_mul, tx_is 4, tx_il 4, tx_is 6, tx_il 5, tx_is 7, tx_fall 142]
def b_X11_owed_142 : List AT := [tx_il 7, tx_ifz r_eq 165, tx_il 6, tx_il 7, tx_rem, tx_is 8, tx_il 7, tx_is 6, tx_il 8, tx_is 7, tx_fall 142]
def b_X11_owed_165 : List AT := [tx_il 3, tx_ifz r_ne 177, tx_il 4, tx_il 6, tx_div, tx_fall 182]
def b_X11_owed_177 : List AT := [tx_il 5, tx_il 6, tx_div, tx_fall 182]
def b_X11_owed_182 : List AT := [tx_ri]
def R_X11_owed (J : JT) (Q : QT) : Prop := (∀ ls st M, wpl J Q b_X11_owed_0 ls st M → J 0 ls st M) ∧ (∀ ls st M, wpl J Q b_X11_owed_35 ls st M → J 35 ls st M) ∧ (∀ ls st M, wpl J Q b_X11_owed_39 ls st M → J 39 ls st M) ∧ (∀ ls st M, wpl J Q b_X11_owed_40 ls st M → J 40 ls st M) ∧ (∀ ls st M, wpl J Q b_X11_owed_50 ls st M → J 50 ls st M) ∧ (∀ ls st M, wpl J Q b_X11_owed_60 ls st M → J 60 ls st M) ∧ (∀ ls st M, wpl J Q b_X11_owed_122 ls st M → J 122 ls st M) ∧ (∀ ls st M, wpl J Q b_X11_owed_128 ls st M → J 128 ls st M) ∧ (∀ ls st M, wpl J Q b_X11_owed_142 ls st M → J 142 ls st M) ∧ (∀ ls st M, wpl J Q b_X11_owed_165 ls st M → J 165 ls st M) ∧ (∀ ls st M, wpl J Q b_X11_owed_177 ls st M → J 177 ls st M) ∧ (∀ ls st M, wpl J Q b_X11_owed_182 ls st M → J 182 ls st M)
theorem R_X11_owed_0 {J : JT} {Q : QT} (R : R_X11_owed J Q) {ls : Ls} {st : St} {M : Mem} (h : wpl J Q b_X11_owed_0 ls st M) : J 0 ls st M := R.1 ls st M h
theorem R_X11_owed_35 {J : JT} {Q : QT} (R : R_X11_owed J Q) {ls : Ls} {st : St} {M : Mem} (h : wpl J Q b_X11_owed_35 ls st M) : J 35 ls st M := R.2.1 ls st M h
theorem R_X11_owed_39 {J : JT} {Q : QT} (R : R_X11_owed J Q) {ls : Ls} {st : St} {M : Mem} (h : wpl J Q b_X11_owed_39 ls st M) : J 39 ls st M := R.2.2.1 ls st M h
theorem R_X11_owed_40 {J : JT} {Q : QT} (R : R_X11_owed J Q) {ls : Ls} {st : St} {M : Mem} (h : wpl J Q b_X11_owed_40 ls st M) : J 40 ls st M := R.2.2.2.1 ls st M h
theorem R_X11_owed_50 {J : JT} {Q : QT} (R : R_X11_owed J Q) {ls : Ls} {st : St} {M : Mem} (h : wpl J Q b_X11_owed_50 ls st M) : J 50 ls st M := R.2.2.2.2.1 ls st M h
theorem R_X11_owed_60 {J : JT} {Q : QT} (R : R_X11_owed J Q) {ls : Ls} {st : St} {M : Mem} (h : wpl J Q b_X11_owed_60 ls st M) : J 60 ls st M := R.2.2.2.2.2.1 ls st M h
theorem R_X11_owed_122 {J : JT} {Q : QT} (R : R_X11_owed J Q) {ls : Ls} {st : St} {M : Mem} (h : wpl J Q b_X11_owed_122 ls st M) : J 122 ls st M := R.2.2.2.2.2.2.1 ls st M h
theorem R_X11_owed_128 {J : JT} {Q : QT} (R : R_X11_owed J Q) {ls : Ls} {st : St} {M : Mem} (h : wpl J Q b_X11_owed_128 ls st M) : J 128 ls st M := R.2.2.2.2.2.2.2.1 ls st M h
theorem R_X11_owed_142 {J : JT} {Q : QT} (R : R_X11_owed J Q) {ls : Ls} {st : St} {M : Mem} (h : wpl J Q b_X11_owed_142 ls st M) : J 142 ls st M := R.2.2.2.2.2.2.2.2.1 ls st M h
theorem R_X11_owed_165 {J : JT} {Q : QT} (R : R_X11_owed J Q) {ls : Ls} {st : St} {M : Mem} (h : wpl J Q b_X11_owed_165 ls st M) : J 165 ls st M := R.2.2.2.2.2.2.2.2.2.1 ls st M h
theorem R_X11_owed_177 {J : JT} {Q : QT} (R : R_X11_owed J Q) {ls : Ls} {st : St} {M : Mem} (h : wpl J Q b_X11_owed_177 ls st M) : J 177 ls st M := R.2.2.2.2.2.2.2.2.2.2.1 ls st M h
theorem R_X11_owed_182 {J : JT} {Q : QT} (R : R_X11_owed J Q) {ls : Ls} {st : St} {M : Mem} (h : wpl J Q b_X11_owed_182 ls st M) : J 182 ls st M := R.2.2.2.2.2.2.2.2.2.2.2 ls st M h
theorem P_X11_owed {J : JT} {Q : QT} (R : R_X11_owed J Q) {as : List Vl} {M : Mem} (h : nf G_X11_owed as M Q) : (enL as).length ≤ 9 ∧ J 0 (padL 9 (enL as)) [] M := by
  unfold nf G_X11_owed at h
  split at h
  · rename_i k q pot w
    obtain ⟨rfl, s, hM, hQ⟩ := h
    have h1 := hM.t0 0
    have e0 : up M 159 0 0 159 0 = 0 := up_eq
    have mf : MF M (up M 159 0 0) := MF.t0 M 0
    have no2 : ¬ ((0 ≤ q ∧ q < 4) ∧ (0 ≤ pot ∧ pot ≤ 9999) ∧ (w = 0 ∨ w = 1)) → an_owed q pot w s = nay s 2 := fun c => if_pos c
    have body : ((0 ≤ q ∧ q < 4) ∧ (0 ≤ pot ∧ pot ≤ 9999) ∧ (w = 0 ∨ w = 1)) → J 50 [some (vR 159), some (vI q), some (vI pot), some (vI w), none, none, none, none, none] [] (up M 159 0 0) := by
      intro c1
      have ea : an_owed q pot w s = _ := if_neg (fun z => z c1)
      rw [ea] at hQ
      generalize up M 159 0 0 = M1 at h1 e0 mf
      obtain ⟨⟨q0, q3⟩, ⟨pt0, pt9⟩, hw⟩ := c1
      generalize hU : owV s.1 q pot = U at hQ
      have ub : 0 ≤ U ∧ U ≤ 1000000 := by
        have h := ot_bd s.1 q.toNat (n := 16) (Nat.le_refl _)
        have h' : 0 ≤ otF s.1 q.toNat ∧ otF s.1 q.toNat ≤ 96 := h
        rw [← hU]
        unfold owV
        have a1 := Int.mul_nonneg pt0 h'.1
        have a2 : pot * otF s.1 q.toNat ≤ 9999 * 96 := Int.mul_le_mul pt9 h'.2 h'.1 (by decide)
        omega
      have fin : ∀ (a b : Int) (x8 : Option Vl), 0 < a → a ≤ 1000000 → a = eu 64 U 24 → J 165 [some (vR 159), some (vI q), some (vI pot), some (vI w), some (vI U), some (vI 24), some (vI a), some (vI b), x8] [] M1 := by
        intro a b x8 a0 a1 ha
        have last : ∀ v : Int, v = (if w = 0 then U else 24) / a → J 182 [some (vR 159), some (vI q), some (vI pot), some (vI w), some (vI U), some (vI 24), some (vI a), some (vI b), x8] [vI v] M1 := fun v hv => R_X11_owed_182 R (hQ M1 v mf h1 e0 (fun _ => by rw [ha] at hv; exact hv))
        refine R_X11_owed_165 R (br (fun g => R_X11_owed_177 R (an (show a ≠ 0 by omega) (last _ ?_))) (fun g => an (show a ≠ 0 by omega) (last _ ?_)))
        · have g : ¬ w = 0 := g
          rw [if_neg g, Int.tdiv_eq_ediv_of_nonneg (by decide)]
          have q1 : 0 ≤ 24 / a := Int.ediv_nonneg (by decide) (by omega)
          have q2 : 24 / a ≤ 24 := Int.ediv_le_self _ (by decide)
          exact w1 (by omega) (by omega) rfl
        · have g : w = 0 := Classical.not_not.mp g
          rw [if_pos g, Int.tdiv_eq_ediv_of_nonneg ub.1]
          have q1 : 0 ≤ U / a := Int.ediv_nonneg ub.1 (by omega)
          have q2 : U / a ≤ U := Int.ediv_le_self _ ub.1
          exact w1 (by omega) (by omega) rfl
      have euc : ∀ (f : Nat) (a b : Int) (x8 : Option Vl), 0 ≤ a → a ≤ 1000000 → 0 ≤ b → b ≤ 24 → b ≤ (f : Int) → (0 < a ∨ 0 < b) → eu f a b = eu 64 U 24 → J 142 [some (vR 159), some (vI q), some (vI pot), some (vI w), some (vI U), some (vI 24), some (vI a), some (vI b), x8] [] M1 := by
        intro f
        induction f with
        | zero =>
          intro a b x8 a0 a1 b0 b24 bf' ab he
          rw [eu] at he
          exact R_X11_owed_142 R (bt (show b = 0 by omega) (fin a b x8 (by omega) a1 he))
        | succ f ih =>
          intro a b x8 a0 a1 b0 b24 bf' ab he
          rw [eu] at he
          by_cases e : b = 0
          · rw [if_pos (by omega)] at he
            exact R_X11_owed_142 R (bt e (fin a b x8 (by omega) a1 he))
          · rw [if_neg (by omega)] at he
            have t1 : a.tmod b = a % b := Int.tmod_eq_emod_of_nonneg a0
            have t2 := Int.emod_nonneg a e
            have t3 := Int.emod_lt_of_pos a (show 0 < b by omega)
            have ew : w32 (a.tmod b) = a.tmod b := w1 (by omega) (by omega) rfl
            refine R_X11_owed_142 R (bf e (an e ?_))
            rw [ew]
            exact ih b (a.tmod b) _ b0 (by omega) (by omega) (by omega) (by omega) (by omega) he
      have key : ∀ a : Nat, a ≤ 16 → ∀ (x acc : Int), x = (a : Int) → acc = sumN (fun s' => if otC s.1 q.toNat s' = true then owA (popc s') else 0) a → J 60 [some (vR 159), some (vI q), some (vI pot), some (vI w), some (vI acc), some (vI 24), some (vI x), none, none] [] M1 := by
        refine dn ?_ ?_
        · intro x acc hx ha
          have bd := ot_bd s.1 q.toNat (n := 16) (Nat.le_refl _)
          have em : f_mul acc pot = U := by
            rw [← hU]
            unfold owV
            rw [show otF s.1 q.toNat = acc from ha.symm, Int.mul_comm pot acc]
            have hU2 : acc * pot = U := by rw [← hU, ha]; unfold owV; exact Int.mul_comm _ _
            exact w1 (by omega) (by omega) rfl
          refine R_X11_owed_60 R (bt (show (16 : Int) ≤ x by omega) (R_X11_owed_128 R ?_))
          show J 142 [some (vR 159), some (vI q), some (vI pot), some (vI w), some (vI (f_mul acc pot)), some (vI 24), some (vI (f_mul acc pot)), some (vI 24), none] [] M1
          rw [em]
          exact euc 64 U 24 _ ub.1 ub.2 (by decide) (by decide) (by decide) (Or.inr (by decide)) rfl
        · intro a ha' ih x acc hx ha
          have hxn : x.toNat = a := by omega
          have bd := ot_bd s.1 q.toNat (n := a) (by omega)
          have bb := bit_and (x := x) (i := q) (by omega) (by omega) q0 (by omega)
          have bc : bitB x q = a.testBit q.toNat := by unfold bitB; rw [hxn]
          rw [bc] at bb
          have skip : ¬ otC s.1 q.toNat a = true → J 122 [some (vR 159), some (vI q), some (vI pot), some (vI w), some (vI acc), some (vI 24), some (vI x), none, none] [] M1 := by
            intro hc
            refine R_X11_owed_122 R (ih _ _ (wn hx (by omega)) ?_)
            rw [sumN, if_neg hc, ← ha]
            omega
          refine R_X11_owed_60 R (bf (show ¬ (16 : Int) ≤ x by omega) (br (fun g => skip (fun z => ?_)) (fun g => an o159 ⟨s.1, ⟨rfl, by omega, by omega⟩, h1.1, ?_⟩)))
          · have g : ¬ andI (shrI x q) 1 = 0 := g
            rw [bb] at g
            unfold otC at z
            cases h9 : a.testBit q.toNat with
            | true => rw [h9] at z; exact absurd z (by simp)
            | false => rw [h9] at g; exact g rfl
          · have g : andI (shrI x q) 1 = 0 := Classical.not_not.mp g
            rw [bb] at g
            have hbit : a.testBit q.toNat = false := by
              cases h9 : a.testBit q.toNat with
              | true => rw [h9] at g; exact absurd g (by decide)
              | false => rfl
            rw [hxn]
            refine br (fun d => bt (by decide) (skip (fun z => ?_))) (fun d => bf (by decide) (an o159 ?_))
            · unfold otC at z; rw [d] at z; exact absurd z (by simp)
            · obtain ⟨r1, r2⟩ := or16 a ha' q.toNat (by omega)
              rw [← hx, show ((q.toNat : Nat) : Int) = q by omega] at r1
              rw [r1]
              refine ⟨s.1, ⟨rfl, by omega, by omega⟩, h1.1, ?_⟩
              rw [Int.toNat_natCast]
              have pc := pop3 a ha' q.toNat (by omega) hbit
              obtain ⟨fo, fo1, fo2⟩ := fc_ow (popc a) pc
              refine br (fun d2 => bf (by decide) ⟨⟨by omega, by omega⟩, ?_⟩) (fun d2 => bt rfl (skip (fun z => ?_)))
              · rw [hxn]
                refine ⟨⟨by omega, by omega⟩, ?_⟩
                rw [Int.toNat_natCast]
                refine ⟨⟨by omega, by omega⟩, ?_⟩
                rw [hxn]
                have e3 : f_sub 3 ((popc a : Nat) : Int) = ((3 - popc a : Nat) : Int) := w1 (by omega) (by omega) (by omega)
                show (0 ≤ f_sub 3 ((popc a : Nat) : Int) ∧ f_sub 3 ((popc a : Nat) : Int) ≤ 3) ∧ J 122 [some (vR 159), some (vI q), some (vI pot), some (vI w), some (vI (f_add acc (f_mul (fcN (popc a)) (fcN (f_sub 3 ((popc a : Nat) : Int)).toNat)))), some (vI 24), some (vI x), none, none] [] M1
                rw [e3]
                refine ⟨⟨by omega, by omega⟩, ?_⟩
                rw [Int.toNat_natCast, fo]
                clear e3
                refine R_X11_owed_122 R (ih _ _ (wn hx (by omega)) ?_)
                have hc : otC s.1 q.toNat a = true := by unfold otC; rw [hbit, d2, Bool.eq_false_iff.mpr d]; rfl
                rw [sumN, if_pos hc, ← ha]
                rw [← ha] at bd
                exact w1 (by omega) (by omega) rfl
              · unfold otC at z
                rw [Bool.eq_false_iff.mpr d2] at z
                exact absurd z (by simp)
      exact R_X11_owed_50 R (key 0 (by decide) _ _ rfl rfl)
    have atB : ∀ b : Int, (b = 0 ∧ ((0 ≤ q ∧ q < 4) ∧ (0 ≤ pot ∧ pot ≤ 9999) ∧ (w = 0 ∨ w = 1))) ∨ (b = 1 ∧ ¬ ((0 ≤ q ∧ q < 4) ∧ (0 ≤ pot ∧ pot ≤ 9999) ∧ (w = 0 ∨ w = 1))) → J 40 [some (vR 159), some (vI q), some (vI pot), some (vI w), none, none, none, none, none] [vI b, vR 159] (up M 159 0 0) := by
      intro b hb
      rcases hb with ⟨rfl, c2⟩ | ⟨rfl, c2⟩
      · exact R_X11_owed_40 R (an o159 ⟨⟨rfl, by decide, by decide, e0⟩, fun z => absurd rfl z, fun _ => bt rfl (body c2)⟩)
      · exact R_X11_owed_40 R (an o159 ⟨⟨rfl, by decide, by decide, e0⟩, fun _ => bf (by decide) (m_no (cd := cd1) (Q := fun r M' => Q (.inl r) M') hM 2 1 (by decide) rfl (no2 c2) 0 hQ), fun z => absurd z (by decide)⟩)
    exact ⟨Nat.le_of_ble_eq_true rfl, R_X11_owed_0 R (an o159 (br (fun d0 => bf (by decide) (br (fun d1 => bf (by decide) (br (fun d2 => bt (by decide) (R_X11_owed_39 R (atB 0 (Or.inl ⟨rfl, by omega⟩)))) (fun d2 => bf (by decide) (R_X11_owed_35 R (atB 1 (Or.inr ⟨rfl, by omega⟩)))))) (fun d1 => bt rfl (R_X11_owed_35 R (atB 1 (Or.inr ⟨rfl, by omega⟩)))))) (fun d0 => bt rfl (R_X11_owed_35 R (atB 1 (Or.inr ⟨rfl, by omega⟩))))))⟩

  · exact h.elim