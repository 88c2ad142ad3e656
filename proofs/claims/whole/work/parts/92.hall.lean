
theorem cl_full {B : Nat → Int} {e : Nat} {Ab : Mem} {s : Tp} (h : s.2.2.1 = 0) : ¬ (clT B e Ab 0 s).2.2.1 = 0 := by
  have r3 : ∀ c : Bool, ¬ (rmS ((!decide ((0 : Int) = 0)) && c) s).2.2.1 = 0 := by
    intro c
    have e0 : ((!decide ((0 : Int) = 0)) && c) = false := by simp
    rw [e0]
    unfold rmS
    rw [if_neg (by decide)]
    show ¬ rfK s.2.2.1 3 = 0
    unfold rfK
    rw [if_pos h]
    decide
  have r4 : ¬ (rmS (!decide ((0 : Int) = 0)) s).2.2.1 = 0 := by
    have := r3 true
    rw [Bool.and_true] at this
    exact this
  have nn : ∀ {lo hi : Int} {x : Tp}, ¬ x.2.2.1 = 0 → ¬ (nuT B e lo hi x).2.2.1 = 0 := fun hx => by rw [nu_no hx]; exact hx
  unfold clT
  split
  · exact nn (nn (r3 _))
  · split
    · rw [th_no (r3 _)]; exact r3 _
    · split
      · exact nn (r3 _)
      · split
        · rw [th_no (r3 _)]; exact r3 _
        · split
          · rw [mo_no (r3 _)]; exact r3 _
          · split
            · exact nn r4
            · show ¬ rfK s.2.2.1 1 = 0
              unfold rfK
              rw [if_pos h]
              decide
/-- what is read becomes the hall -/
theorem Rd_Md {M M' Ab : Mem} (h : RdP M Ab) (h0 : ∀ k, k < 5 → M' 163 k = M 162 k) (h1 : ∀ p i, p < nP Ab → i < 2 → M' (176 + p) i = M (165 + p) i) (h2 : ∀ t i, t < nT Ab → i < 4 → M' (202 + t) i = M (187 + t) i) (h3 : ∀ d, d < nD Ab → M' 277 d = M 276 d) (h4 : ∀ m i, m < nM Ab → i < 3 → M' (226 + m) i = M (217 + m) i) : MdP M' Ab := by
  obtain ⟨ho, ⟨a0, a1, a2, a3, a4⟩, b1, b2, b3, b4⟩ := h
  refine ⟨ho, ⟨?_, ?_, ?_, ?_, ?_⟩, fun p hp => ?_, fun t ht => ?_, fun d hd => ?_, fun m hm => ?_⟩
  · rw [h0 0 (by decide)]; exact a0
  · rw [h0 1 (by decide)]; exact a1
  · rw [h0 2 (by decide)]; exact a2
  · rw [h0 3 (by decide)]; exact a3
  · rw [h0 4 (by decide)]; exact a4
  · rw [h1 p 0 hp (by decide), h1 p 1 hp (by decide)]; exact b1 p hp
  · rw [h2 t 0 ht (by decide), h2 t 1 ht (by decide), h2 t 2 ht (by decide), h2 t 3 ht (by decide)]; exact b2 t ht
  · rw [h3 d hd]; exact b3 d hd
  · rw [h4 m 0 hm (by decide), h4 m 1 hm (by decide), h4 m 2 hm (by decide)]; exact b4 m hm
/-- rows copied in part -/
def Cp (N0 N : Mem) (db sb w cnt : Nat) (D : Nat → Nat → Prop) : Prop := (∀ u v, ¬ (db ≤ u ∧ u < db + cnt) → N u v = N0 u v) ∧ ∀ j k, j < cnt → k < w → D j k → N (db + j) k = N0 (sb + j) k
theorem Cp.mono {N0 N : Mem} {db sb w cnt : Nat} {D D2 : Nat → Nat → Prop} (h : Cp N0 N db sb w cnt D) (hd : ∀ j k, j < cnt → k < w → D2 j k → D j k) : Cp N0 N db sb w cnt D2 := ⟨h.1, fun j k h1 h2 h3 => h.2 j k h1 h2 (hd j k h1 h2 h3)⟩
theorem Cp.put {N0 N : Mem} {db sb w cnt i c : Nat} {D D2 : Nat → Nat → Prop} (h : Cp N0 N db sb w cnt D) (hs : sb + cnt ≤ db) (hi : i < cnt) (hd : ∀ j k, j < cnt → k < w → D2 j k → D j k ∨ (j = i ∧ k = c)) : Cp N0 (up N (db + i) c (N (sb + i) c)) db sb w cnt D2 := by
  refine ⟨fun u v hu => by rw [up_ne (by omega)]; exact h.1 u v hu, fun j k h1 h2 h3 => ?_⟩
  by_cases e : j = i ∧ k = c
  · rw [e.1, e.2, up_eq]
    exact h.1 _ _ (by omega)
  · rw [up_ne (by omega)]
    exact h.2 j k h1 h2 ((hd j k h1 h2 h3).resolve_right e)

def HC (M N A : Mem) (st : Nat) : Prop := (∀ u v, ¬ u = 163 → ¬ (1 ≤ st ∧ 176 ≤ u ∧ u < 186) → ¬ (2 ≤ st ∧ 202 ≤ u ∧ u < 216) → ¬ (3 ≤ st ∧ u = 277) → ¬ (4 ≤ st ∧ 226 ≤ u ∧ u < 234) → N u v = M u v) ∧ (∀ k, k < 5 → N 163 k = M 162 k) ∧ (1 ≤ st → ∀ p i, p < nP A → i < 2 → N (176 + p) i = M (165 + p) i) ∧ (2 ≤ st → ∀ t i, t < nT A → i < 4 → N (202 + t) i = M (187 + t) i) ∧ (3 ≤ st → ∀ d, d < nD A → N 277 d = M 276 d) ∧ (4 ≤ st → ∀ m i, m < nM A → i < 3 → N (226 + m) i = M (217 + m) i)
theorem HC_1 {M N N' A : Mem} (ho : HallOK A) (h : HC M N A 0) (c : Cp N N' 176 165 2 (nP A) (fun _ _ => True)) : HC M N' A 1 := by
  have b := (nP_le ho).1
  obtain ⟨f, a0, -⟩ := h
  refine ⟨fun u v h1 h2 h3 h4 h5 => ?_, fun k hk => ?_, fun _ p i hp hi => ?_, fun z => by omega, fun z => by omega, fun z => by omega⟩
  · rw [c.1 u v (by omega)]; exact f u v h1 (by omega) (by omega) (by omega) (by omega)
  · rw [c.1 _ _ (by omega)]; exact a0 k hk
  · rw [c.2 p i hp hi trivial]; exact f _ _ (by omega) (by omega) (by omega) (by omega) (by omega)
theorem HC_2 {M N N' A : Mem} (ho : HallOK A) (h : HC M N A 1) (c : Cp N N' 202 187 4 (nT A) (fun _ _ => True)) : HC M N' A 2 := by
  have b := (nT_le ho).1
  have b1 := (nP_le ho).1
  obtain ⟨f, a0, a1, -⟩ := h
  refine ⟨fun u v h1 h2 h3 h4 h5 => ?_, fun k hk => ?_, fun _ p i hp hi => ?_, fun _ p i hp hi => ?_, fun z => by omega, fun z => by omega⟩
  · rw [c.1 u v (by omega)]; exact f u v h1 (by omega) (by omega) (by omega) (by omega)
  · rw [c.1 _ _ (by omega)]; exact a0 k hk
  · rw [c.1 _ _ (by omega)]; exact a1 (by omega) p i hp hi
  · rw [c.2 p i hp hi trivial]; exact f _ _ (by omega) (by omega) (by omega) (by omega) (by omega)
theorem HC_3 {M N N' A : Mem} (ho : HallOK A) (h : HC M N A 2) (c1 : ∀ u v, u ≠ 277 → N' u v = N u v) (c2 : ∀ d, d < nD A → N' 277 d = N 276 d) : HC M N' A 3 := by
  have b := (nT_le ho).1
  have b1 := (nP_le ho).1
  obtain ⟨f, a0, a1, a2, -⟩ := h
  refine ⟨fun u v h1 h2 h3 h4 h5 => ?_, fun k hk => ?_, fun _ p i hp hi => ?_, fun _ p i hp hi => ?_, fun _ d hd => ?_, fun z => by omega⟩
  · rw [c1 u v (by omega)]; exact f u v h1 (by omega) (by omega) (by omega) (by omega)
  · rw [c1 _ _ (by omega)]; exact a0 k hk
  · rw [c1 _ _ (by omega)]; exact a1 (by omega) p i hp hi
  · rw [c1 _ _ (by omega)]; exact a2 (by omega) p i hp hi
  · rw [c2 d hd]; exact f _ _ (by omega) (by omega) (by omega) (by omega) (by omega)
theorem HC_4 {M N N' A : Mem} (ho : HallOK A) (h : HC M N A 3) (c : Cp N N' 226 217 3 (nM A) (fun _ _ => True)) : HC M N' A 4 := by
  have b := (nT_le ho).1
  have b1 := (nP_le ho).1
  have b2 := (nM_le ho).1
  obtain ⟨f, a0, a1, a2, a3, -⟩ := h
  refine ⟨fun u v h1 h2 h3 h4 h5 => ?_, fun k hk => ?_, fun _ p i hp hi => ?_, fun _ p i hp hi => ?_, fun _ d hd => ?_, fun _ p i hp hi => ?_⟩
  · rw [c.1 u v (by omega)]; exact f u v h1 (by omega) (by omega) (by omega) (by omega)
  · rw [c.1 _ _ (by omega)]; exact a0 k hk
  · rw [c.1 _ _ (by omega)]; exact a1 (by omega) p i hp hi
  · rw [c.1 _ _ (by omega)]; exact a2 (by omega) p i hp hi
  · rw [c.1 _ _ (by omega)]; exact a3 (by omega) d hd
  · rw [c.2 p i hp hi trivial]; exact f _ _ (by omega) (by omega) (by omega) (by omega) (by omega)

theorem Mdl_tp {M M' : Mem} {s : AS} {fp : Int} (h : Mdl M s) (f : ∀ u v, RC u v → ¬ (u = 159 ∧ (v = 1 ∨ v = 3)) → M' u v = M u v) (e1 : M' 159 1 = 0) (e3 : M' 159 3 = fp) (b : 0 ≤ M' 159 37 ∧ M' 159 37 ≤ 1000) : Mdl M' (s.1, tpA s.2.1 fp, s.2.2) := by
  generalize hM5 : up (up M' 159 1 (M 159 1)) 159 3 (M 159 3) = M5
  have f5 : ∀ u v, ¬ (u = 159 ∧ (v = 1 ∨ v = 3)) → M' u v = M5 u v := fun u v a => by rw [← hM5, up_ne (by omega), up_ne (by omega)]
  have h5 : Mdl M5 s := h.kept (fun u v hu => by
    by_cases q : u = 159 ∧ (v = 1 ∨ v = 3)
    · rcases q.2 with q2 | q2
      · rw [q.1, q2, ← hM5, up_ne (by omega), up_eq]
      · rw [q.1, q2, ← hM5, up_eq]
    · rw [← f5 u v q]; exact f u v hu q) (by rw [← f5 _ _ (by omega)]; exact b)
  have ta : ∀ u v, ¬ (u = 10 ∧ (v = 8 ∨ v = 9)) → tpA s.2.1 fp u v = s.2.1 u v := fun u v h => by unfold tpA; rw [up_ne (by omega), up_ne (by omega)]
  have ta8 : tpA s.2.1 fp 10 8 = 0 := by unfold tpA; rw [up_ne (by omega), up_eq]
  have ta9 : tpA s.2.1 fp 10 9 = fp := by unfold tpA; rw [up_eq]
  obtain ⟨g1, g2, g3, ⟨i1, i2, i3⟩, ⟨t1, t2, t3, t4⟩, ⟨r1, r2⟩, w1', w2⟩ := h5
  have ni : nI3 (s.1, tpA s.2.1 fp, s.2.2) = nI3 s := by
    show (tpA s.2.1 fp 10 7).toNat = (s.2.1 10 7).toNat
    rw [ta _ _ (by omega)]
  refine ⟨g1.kept2 (fun u v a b => f5 u v (by omega)), g2.kept (f5 _ _ (by omega)) (fun u v a b => f5 u v (by omega)), g3.kept (f5 _ _ (by omega)) (fun u v a b => f5 u v (by omega)), ⟨⟨?_, fun i hi => ?_⟩, ?_, fun i hi => ?_⟩, ⟨⟨?_, fun i hi => ?_⟩, ?_, ?_, fun i hi => ?_⟩, ⟨?_, ?_⟩, (f5 _ _ (by omega)).trans w1', b⟩
  · show 0 ≤ tpA s.2.1 fp 10 7 ∧ tpA s.2.1 fp 10 7 ≤ 3
    rw [ta _ _ (by omega)]; exact i1.1
  · rw [ni] at hi; exact i1.2 i hi
  · show _ = tpA s.2.1 fp 10 7
    rw [ta _ _ (by omega), f5 _ _ (by omega)]; exact i2
  · rw [ni] at hi
    obtain ⟨q1, q2, q3, q4⟩ := i3 i hi
    have fr : ∀ v, M' (289 + i) v = M5 (289 + i) v := fun v => f5 _ _ (by omega)
    exact ⟨by rw [fr]; exact q1, by rw [fr]; exact q2, fun j c hj hc => by rw [fr]; exact q3 j c hj hc, fun j c hj hc => by rw [fr]; exact q4 j c hj hc⟩
  · show 0 ≤ tpA s.2.1 fp 10 8 ∧ tpA s.2.1 fp 10 8 ≤ 600
    rw [ta8]; decide
  · show 0 ≤ tpA s.2.1 fp 18 i ∧ tpA s.2.1 fp 18 i < 256
    rw [ta _ _ (by omega)]; exact t1.2 i hi
  · show _ = tpA s.2.1 fp 10 8
    rw [ta8]; exact e1
  · show _ = tpA s.2.1 fp 10 9
    rw [ta9]; exact e3
  · show _ = tpA s.2.1 fp 18 i
    rw [ta _ _ (by omega), f5 _ _ (by omega)]; exact t4 i hi
  · show _ = tpA s.2.1 fp 10 10
    rw [ta _ _ (by omega), f5 _ _ (by omega)]; exact r1
  · show _ = tpA s.2.1 fp 10 11
    rw [ta _ _ (by omega), f5 _ _ (by omega)]; exact r2
theorem nu_fp {B : Nat → Int} {e : Nat} {lo hi : Int} {s : Tp} (h : (nuT B e lo hi s).2.2.1 = 0) : (nuT B e lo hi s).2.2.2 = s.2.2.2 := by
  have q := (nu_ok h).1
  unfold nuT at h ⊢
  rw [if_pos q] at h ⊢
  show nmP _ _ _ = _
  unfold nmP
  rw [if_pos h]
theorem re_fk {kd : Int} {s : Tp} (hk : ¬ kd = 0) : ¬ (reT kd s).2.2.1 = 0 := by
  show ¬ rfK s.2.2.1 kd = 0
  unfold rfK
  split
  · exact hk
  · assumption
theorem rm_fp {c : Bool} {s : Tp} (h : (rmS c s).2.2.1 = 0) : (rmS c s).2.2.2 = s.2.2.2 := by
  unfold rmS at h ⊢
  cases c with
  | true => rfl
  | false => rw [if_neg (by decide)] at h; exact absurd h (re_fk (by decide))
theorem th_fp {B : Nat → Int} {e : Nat} {Ab : Mem} {o : Int} {s : Tp} (h : (th4 B e Ab o s).2.2.1 = 0) : (th4 B e Ab o s).2.2.2 = s.2.2.2 := by
  have a2 : ∀ {s : Tp}, (th2 B e Ab s).2.2.1 = 0 → (th2 B e Ab s).2.2.2 = s.2.2.2 := fun h => (nu_fp h).trans (nu_fp (nu_ok h).1)
  by_cases q : o = 0
  · have e4 : th4 B e Ab o s = th2 B e Ab s := by unfold th4; rw [if_pos q]
    rw [e4] at h ⊢
    exact a2 h
  · have e4 : th4 B e Ab o s = nuT B e 0 99 (nuT B e 0 (Ab 10 3 - 1) (th2 B e Ab s)) := by unfold th4 th3; rw [if_neg q, if_neg q]
    rw [e4] at h ⊢
    have h3 := (nu_ok h).1
    exact (nu_fp h).trans ((nu_fp h3).trans (a2 (nu_ok h3).1))
theorem mo_fp {B : Nat → Int} {e : Nat} {Ab : Mem} {s : Tp} (h : (mo4 B e Ab s).2.2.1 = 0) : (mo4 B e Ab s).2.2.2 = s.2.2.2 := by
  have h3 := mo4_ok h
  have e4 : mo4 B e Ab s = mo3 B e Ab s := by
    unfold mo4 at h ⊢
    by_cases q : moC B e Ab s = true
    · rw [if_pos q] at h; exact absurd h (re_fk (by decide))
    · rw [if_neg q]
  rw [e4]
  have h2 := (nu_ok h3).1
  exact (nu_fp h3).trans ((nu_fp h2).trans (nu_fp (nu_ok h2).1))
theorem cl_fp {B : Nat → Int} {e : Nat} {Ab : Mem} {b : Int} {s : Tp} (h : (clT B e Ab b s).2.2.1 = 0) : (clT B e Ab b s).2.2.2 = s.2.2.2 := by
  unfold clT at h ⊢
  split at h
  · rename_i w
    rw [if_pos w]
    have h2 := (nu_ok h).1
    exact (nu_fp h).trans ((nu_fp h2).trans (rm_fp (nu_ok h2).1))
  · rename_i w0
    rw [if_neg w0]
    split at h
    · rename_i w
      rw [if_pos w]
      exact (th_fp h).trans (rm_fp (by by_cases q : (rmS (!decide (b = 0) && decide (Ab 10 2 < 14)) s).2.2.1 = 0; exact q; rw [th_no q] at h; exact h))
    · rename_i w1'
      rw [if_neg w1']
      split at h
      · rename_i w
        rw [if_pos w]
        exact (nu_fp h).trans (rm_fp (nu_ok h).1)
      · rename_i w2
        rw [if_neg w2]
        split at h
        · rename_i w
          rw [if_pos w]
          exact (th_fp h).trans (rm_fp (by by_cases q : (rmS (!decide (b = 0) && decide (Ab 10 2 < 14)) s).2.2.1 = 0; exact q; rw [th_no q] at h; exact h))
        · rename_i w3
          rw [if_neg w3]
          split at h
          · rename_i w
            rw [if_pos w]
            exact (mo_fp h).trans (rm_fp (by by_cases q : (rmS (!decide (b = 0) && decide (Ab 10 4 < 8)) s).2.2.1 = 0; exact q; rw [mo_no q] at h; exact h))
          · rename_i w4
            rw [if_neg w4]
            split at h
            · rename_i w
              rw [if_pos w]
              exact (nu_fp h).trans (rm_fp (nu_ok h).1)
            · exact absurd h (re_fk (by decide))
theorem st_fp {B : Nat → Int} {e : Nat} {s : Tp} (h : (stT B e s).2.2.1 = 0) : (stT B e s).2.2.2 = s.2.2.2 := by
  have q := st_fk h
  unfold stT at h ⊢
  rw [if_pos q] at h ⊢
  split at h
  · rename_i w
    rw [if_pos w]
  · exact absurd h (by show ¬ (1 : Int) = 0; decide)
theorem pr_no {B : Nat → Int} {e : Nat} {a : Mem × Tp} (h : ¬ a.2.2.2.1 = 0) : ∀ m, prS B e m a = a
  | 0 => rfl
  | m + 1 => by
    have hb : ¬ hmB B e a.2 = true := by unfold hmB; rw [decide_eq_false h]; simp
    have ht : hmT B e a.2 = a.2 := by unfold hmT; rw [if_neg h]
    rw [prS, if_neg hb, ht]
theorem pr_end {B : Nat → Int} {e : Nat} {a : Mem × Tp} {m : Nat} (h : a.2.2.2.1 = 0) (hp : ¬ sk cBl B e a.2.1 < e) : prS B e (m + 1) a = (a.1, (sk cBl B e a.2.1, sk cBl B e a.2.1, a.2.2.2.1, a.2.2.2.2)) := by
  have hb : ¬ hmB B e a.2 = true := by unfold hmB; rw [decide_eq_false hp]; simp
  have ht : hmT B e a.2 = (sk cBl B e a.2.1, sk cBl B e a.2.1, a.2.2.2.1, a.2.2.2.2) := by unfold hmT; rw [if_pos h]
  rw [prS, if_neg hb, ht]
theorem pr_go {B : Nat → Int} {e : Nat} {a : Mem × Tp} {c : Nat} (hc : c ≤ 60) (h : a.2.2.2.1 = 0) (hl : a.2.1 ≤ e) (hp : sk cBl B e a.2.1 < e) : prS B e (61 - c) a = prS B e (61 - (c + 1)) (clA B e a.1 c (sk cBl B e a.2.1) a.2.2.2.2) := by
  have hb : hmB B e a.2 = true := by unfold hmB; rw [decide_eq_true h, decide_eq_true hp]; rfl
  have id1 := sk_id (c := cBl) (B := B) hl
  have ht : wdT B e (hmT B e a.2) = (sk cLt B e (sk cBl B e a.2.1), sk cBl B e a.2.1, 0, a.2.2.2.2) := by
    have h1 : hmT B e a.2 = (sk cBl B e a.2.1, sk cBl B e a.2.1, 0, a.2.2.2.2) := by unfold hmT; rw [if_pos h, h]
    rw [h1]
    unfold wdT
    rw [if_pos rfl]
    show (sk cLt B e (sk cBl B e (sk cBl B e a.2.1)), sk cBl B e (sk cBl B e a.2.1), _, _) = _
    rw [id1]
  have hr : (if 60 - c = 0 then (0 : Int) else 1) = if c < 60 then 1 else 0 := by
    by_cases q : c < 60
    · rw [if_neg (by omega), if_pos q]
    · rw [if_pos (by omega), if_neg q]
  rw [show 61 - c = (60 - c) + 1 by omega, prS, if_pos hb, ht, hr, show 61 - (c + 1) = 60 - c by omega]
  unfold clA
  rw [id1]

def G_X11_hall : FN := fun as M Q => match as with
  | [.inr (.inl k), .inl n] => k = 159 ∧ mS cd1 (an_hall n) M Q
  | _ => False
def b_X11_hall_0 : List AT := [tx_al 0, tx_ic 0, tx_pi 11 0, tx_al 0, tx_il 1, tx_ic 0, tx_al 0, tx_gi 11 1, tx_call (nf G_X11_in) 3, tx_ifz r_ne 22, tx_ic 1, tx_fall 23]
def b_X11_hall_22 : List AT := [tx_ic 0, tx_fall 23]
def b_X11_hall_23 : List AT := [tx_ic 1, tx_ic 1, tx_callv 11 (nf G_X11_bad) 3, tx_ifz r_eq 33, tx_ic 0, tx_ri]
def b_X11_hall_33 : List AT := [tx_al 0, tx_il 1, tx_callv 11 (nf G_X11_starts) 1, tx_ic 0, tx_is 2, tx_fall 40]
def b_X11_hall_40 : List AT := [tx_il 2, tx_ic 5, tx_cmp r_ge 58, tx_al 0, tx_gr 11 3, tx_il 2, tx_ic 0, tx_iax, tx_inc 2 1, tx_fall 40]
def b_X11_hall_58 : List AT := [tx_al 0, tx_gi 11 5, tx_ifz r_ne 87, tx_al 0, tx_gi 11 4, tx_al 0, tx_gi 11 2, tx_cmp r_ge 87, tx_al 0, tx_callv 11 (nf G_X11_clause) 0, tx_al 0, tx_callv 11 (nf G_X11_blanks) 0, tx_fall 58]
def b_X11_hall_87 : List AT := [tx_al 0, tx_al 0, tx_gi 11 6, tx_pi 11 3, tx_al 0, tx_gi 11 5, tx_ifz r_eq 110, tx_al 0, tx_gi 11 5, tx_ic 10, tx_bin f_sub, tx_ri]
def b_X11_hall_110 : List AT := [tx_ic 0, tx_is 2, tx_fall 112]
def b_X11_hall_112 : List AT := [tx_il 2, tx_ic 5, tx_cmp r_ge 135, tx_al 0, tx_gr 11 4, tx_il 2, tx_al 0, tx_gr 11 3, tx_il 2, tx_ia, tx_iax, tx_inc 2 1, tx_fall 112]
def b_X11_hall_135 : List AT := [tx_ic 0, tx_is 2, tx_fall 137]
def b_X11_hall_137 : List AT := [tx_il 2, tx_al 0, tx_gr 11 4, tx_ic 0, tx_ia, tx_cmp r_ge 182, tx_ic 0, tx_is 3, tx_fall 149]
def b_X11_hall_149 : List AT := [tx_il 3, tx_ic 2, tx_cmp r_ge 176, tx_al 0, tx_gr 11 16, tx_il 2, tx_aa 5, tx_il 3, tx_al 0, tx_gr 11 5, tx_il 2, tx_aa 5, tx_il 3, tx_ia, tx_iax, tx_inc 3 1, tx_fall 149]
def b_X11_hall_176 : List AT := [tx_inc 2 1, tx_fall 137]
def b_X11_hall_182 : List AT := [tx_ic 0, tx_is 2, tx_fall 184]
def b_X11_hall_184 : List AT := [tx_il 2, tx_al 0, tx_gr 11 4, tx_ic 1, tx_ia, tx_cmp r_ge 229, tx_ic 0, tx_is 3, tx_fall 196]
def b_X11_hall_196 : List AT := [tx_il 3, tx_ic 4, tx_cmp r_ge 223, tx_al 0, tx_gr 11 42, tx_il 2, tx_aa 5, tx_il 3, tx_al 0, tx_gr 11 27, tx_il 2, tx_aa 5, tx_il 3, tx_ia, tx_iax, tx_inc 3 1, tx_fall 196]
def b_X11_hall_223 : List AT := [tx_inc 2 1, tx_fall 184]
def b_X11_hall_229 : List AT := [tx_ic 0, tx_is 2, tx_fall 231]
def b_X11_hall_231 : List AT := [tx_il 2, tx_al 0, tx_gr 11 4, tx_ic 2, tx_ia, tx_cmp r_ge 259, tx_al 0, tx_gr 11 118, tx_il 2, tx_al 0, tx_gr 11 117, tx_il 2, tx_ia, tx_iax, tx_inc 2 1, tx_fall 231]
def b_X11_hall_259 : List AT := [tx_ic 0, tx_is 2, tx_fall 261]
def b_X11_hall_261 : List AT := [tx_il 2, tx_al 0, tx_gr 11 4, tx_ic 3, tx_ia, tx_cmp r_ge 306, tx_ic 0, tx_is 3, tx_fall 273]
def b_X11_hall_273 : List AT := [tx_il 3, tx_ic 3, tx_cmp r_ge 300, tx_al 0, tx_gr 11 66, tx_il 2, tx_aa 5, tx_il 3, tx_al 0, tx_gr 11 57, tx_il 2, tx_aa 5, tx_il 3, tx_ia, tx_iax, tx_inc 3 1, tx_fall 273]
def b_X11_hall_300 : List AT := [tx_inc 2 1, tx_fall 261]
def b_X11_hall_306 : List AT := [tx_al 0, tx_ic 0, tx_pi 11 22, tx_al 0, tx_ic 0, tx_pi 11 23, tx_al 0, tx_ic 0, tx_pi 11 24, tx_al 0, tx_gr 11 4, tx_ic 0, tx_ia, tx_ri]
def R_X11_hall (J : JT) (Q : QT) : Prop := (∀ ls st M, wpl J Q b_X11_hall_0 ls st M → J 0 ls st M) ∧ (∀ ls st M, wpl J Q b_X11_hall_22 ls st M → J 22 ls st M) ∧ (∀ ls st M, wpl J Q b_X11_hall_23 ls st M → J 23 ls st M) ∧ (∀ ls st M, wpl J Q b_X11_hall_33 ls st M → J 33 ls st M) ∧ (∀ ls st M, wpl J Q b_X11_hall_40 ls st M → J 40 ls st M) ∧ (∀ ls st M, wpl J Q b_X11_hall_58 ls st M → J 58 ls st M) ∧ (∀ ls st M, wpl J Q b_X11_hall_87 ls st M → J 87 ls st M) ∧ (∀ ls st M, wpl J Q b_X11_hall_110 ls st M → J 110 ls st M) ∧ (∀ ls st M, wpl J Q b_X11_hall_112 ls st M → J 112 ls st M) ∧ (∀ ls st M, wpl J Q b_X11_hall_135 ls st M → J 135 ls st M) ∧ (∀ ls st M, wpl J Q b_X11_hall_137 ls st M → J 137 ls st M) ∧ (∀ ls st M, wpl J Q b_X11_hall_149 ls st M → J 149 ls st M) ∧ (∀ ls st M, wpl J Q b_X11_hall_176 ls st M → J 176 ls st M) ∧ (∀ ls st M, wpl J Q b_X11_hall_182 ls st M → J 182 ls st M) ∧ (∀ ls st M, wpl J Q b_X11_hall_184 ls st M → J 184 ls st M) ∧ (∀ ls st M, wpl J Q b_X11_hall_196 ls st M → J 196 ls st M) ∧ (∀ ls st M, wpl J Q b_X11_hall_223 ls st M → J 223 ls st M) ∧ (∀ ls st M, wpl J Q b_X11_hall_229 ls st M → J 229 ls st M) ∧ (∀ ls st M, wpl J Q b_X11_hall_231 ls st M → J 231 ls st M) ∧ (∀ ls st M, wpl J Q b_X11_hall_259 ls st M → J 259 ls st M) ∧ (∀ ls st M, wpl J Q b_X11_hall_261 ls st M → J 261 ls st M) ∧ (∀ ls st M, wpl J Q b_X11_hall_273 ls st M → J 273 ls st M) ∧ (∀ ls st M, wpl J Q b_X11_hall_300 ls st M → J 300 ls st M) ∧ (∀ ls st M, wpl J Q b_X11_hall_306 ls st M → J 306 ls st M)
theorem R_X11_hall_0 {J : JT} {Q : QT} (R : R_X11_hall J Q) {ls : Ls} {st : St} {M : Mem} (h : wpl J Q b_X11_hall_0 ls st M) : J 0 ls st M := R.1 ls st M h
theorem R_X11_hall_22 {J : JT} {Q : QT} (R : R_X11_hall J Q) {ls : Ls} {st : St} {M : Mem} (h : wpl J Q b_X11_hall_22 ls st M) : J 22 ls st M := R.2.1 ls st M h
theorem R_X11_hall_23 {J : JT} {Q : QT} (R : R_X11_hall J Q) {ls : Ls} {st : St} {M : Mem} (h : wpl J Q b_X11_hall_23 ls st M) : J 23 ls st M := R.2.2.1 ls st M h
theorem R_X11_hall_33 {J : JT} {Q : QT} (R : R_X11_hall J Q) {ls : Ls} {st : St} {M : Mem} (h : wpl J Q b_X11_hall_33 ls st M) : J 33 ls st M := R.2.2.2.1 ls st M h
theorem R_X11_hall_40 {J : JT} {Q : QT} (R : R_X11_hall J Q) {ls : Ls} {st : St} {M : Mem} (h : wpl J Q b_X11_hall_40 ls st M) : J 40 ls st M := R.2.2.2.2.1 ls st M h
theorem R_X11_hall_58 {J : JT} {Q : QT} (R : R_X11_hall J Q) {ls : Ls} {st : St} {M : Mem} (h : wpl J Q b_X11_hall_58 ls st M) : J 58 ls st M := R.2.2.2.2.2.1 ls st M h
theorem R_X11_hall_87 {J : JT} {Q : QT} (R : R_X11_hall J Q) {ls : Ls} {st : St} {M : Mem} (h : wpl J Q b_X11_hall_87 ls st M) : J 87 ls st M := R.2.2.2.2.2.2.1 ls st M h
theorem R_X11_hall_110 {J : JT} {Q : QT} (R : R_X11_hall J Q) {ls : Ls} {st : St} {M : Mem} (h : wpl J Q b_X11_hall_110 ls st M) : J 110 ls st M := R.2.2.2.2.2.2.2.1 ls st M h
theorem R_X11_hall_112 {J : JT} {Q : QT} (R : R_X11_hall J Q) {ls : Ls} {st : St} {M : Mem} (h : wpl J Q b_X11_hall_112 ls st M) : J 112 ls st M := R.2.2.2.2.2.2.2.2.1 ls st M h
theorem R_X11_hall_135 {J : JT} {Q : QT} (R : R_X11_hall J Q) {ls : Ls} {st : St} {M : Mem} (h : wpl J Q b_X11_hall_135 ls st M) : J 135 ls st M := R.2.2.2.2.2.2.2.2.2.1 ls st M h
theorem R_X11_hall_137 {J : JT} {Q : QT} (R : R_X11_hall J Q) {ls : Ls} {st : St} {M : Mem} (h : wpl J Q b_X11_hall_137 ls st M) : J 137 ls st M := R.2.2.2.2.2.2.2.2.2.2.1 ls st M h
theorem R_X11_hall_149 {J : JT} {Q : QT} (R : R_X11_hall J Q) {ls : Ls} {st : St} {M : Mem} (h : wpl J Q b_X11_hall_149 ls st M) : J 149 ls st M := R.2.2.2.2.2.2.2.2.2.2.2.1 ls st M h
theorem R_X11_hall_176 {J : JT} {Q : QT} (R : R_X11_hall J Q) {ls : Ls} {st : St} {M : Mem} (h : wpl J Q b_X11_hall_176 ls st M) : J 176 ls st M := R.2.2.2.2.2.2.2.2.2.2.2.2.1 ls st M h
theorem R_X11_hall_182 {J : JT} {Q : QT} (R : R_X11_hall J Q) {ls : Ls} {st : St} {M : Mem} (h : wpl J Q b_X11_hall_182 ls st M) : J 182 ls st M := R.2.2.2.2.2.2.2.2.2.2.2.2.2.1 ls st M h
theorem R_X11_hall_184 {J : JT} {Q : QT} (R : R_X11_hall J Q) {ls : Ls} {st : St} {M : Mem} (h : wpl J Q b_X11_hall_184 ls st M) : J 184 ls st M := R.2.2.2.2.2.2.2.2.2.2.2.2.2.2.1 ls st M h
theorem R_X11_hall_196 {J : JT} {Q : QT} (R : R_X11_hall J Q) {ls : Ls} {st : St} {M : Mem} (h : wpl J Q b_X11_hall_196 ls st M) : J 196 ls st M := R.2.2.2.2.2.2.2.2.2.2.2.2.2.2.2.1 ls st M h
theorem R_X11_hall_223 {J : JT} {Q : QT} (R : R_X11_hall J Q) {ls : Ls} {st : St} {M : Mem} (h : wpl J Q b_X11_hall_223 ls st M) : J 223 ls st M := R.2.2.2.2.2.2.2.2.2.2.2.2.2.2.2.2.1 ls st M h
theorem R_X11_hall_229 {J : JT} {Q : QT} (R : R_X11_hall J Q) {ls : Ls} {st : St} {M : Mem} (h : wpl J Q b_X11_hall_229 ls st M) : J 229 ls st M := R.2.2.2.2.2.2.2.2.2.2.2.2.2.2.2.2.2.1 ls st M h
theorem R_X11_hall_231 {J : JT} {Q : QT} (R : R_X11_hall J Q) {ls : Ls} {st : St} {M : Mem} (h : wpl J Q b_X11_hall_231 ls st M) : J 231 ls st M := R.2.2.2.2.2.2.2.2.2.2.2.2.2.2.2.2.2.2.1 ls st M h
theorem R_X11_hall_259 {J : JT} {Q : QT} (R : R_X11_hall J Q) {ls : Ls} {st : St} {M : Mem} (h : wpl J Q b_X11_hall_259 ls st M) : J 259 ls st M := R.2.2.2.2.2.2.2.2.2.2.2.2.2.2.2.2.2.2.2.1 ls st M h
theorem R_X11_hall_261 {J : JT} {Q : QT} (R : R_X11_hall J Q) {ls : Ls} {st : St} {M : Mem} (h : wpl J Q b_X11_hall_261 ls st M) : J 261 ls st M := R.2.2.2.2.2.2.2.2.2.2.2.2.2.2.2.2.2.2.2.2.1 ls st M h
theorem R_X11_hall_273 {J : JT} {Q : QT} (R : R_X11_hall J Q) {ls : Ls} {st : St} {M : Mem} (h : wpl J Q b_X11_hall_273 ls st M) : J 273 ls st M := R.2.2.2.2.2.2.2.2.2.2.2.2.2.2.2.2.2.2.2.2.2.1 ls st M h
theorem R_X11_hall_300 {J : JT} {Q : QT} (R : R_X11_hall J Q) {ls : Ls} {st : St} {M : Mem} (h : wpl J Q b_X11_hall_300 ls st M) : J 300 ls st M := R.2.2.2.2.2.2.2.2.2.2.2.2.2.2.2.2.2.2.2.2.2.2.1 ls st M h
theorem R_X11_hall_306 {J : JT} {Q : QT} (R : R_X11_hall J Q) {ls : Ls} {st : St} {M : Mem} (h : wpl J Q b_X11_hall_306 ls st M) : J 306 ls st M := R.2.2.2.2.2.2.2.2.2.2.2.2.2.2.2.2.2.2.2.2.2.2.2 ls st M h
theorem P_X11_hall {J : JT} {Q : QT} (R : R_X11_hall J Q) {as : List Vl} {M : Mem} (h : nf G_X11_hall as M Q) : (enL as).length ≤ 4 ∧ J 0 (padL 4 (enL as)) [] M := by
  unfold nf G_X11_hall at h
  split at h
  · rename_i k n
    obtain ⟨rfl, s, hM, hQ⟩ := h
    have h1 := hM.t0 0
    have e0 : up M 159 0 0 159 0 = 0 := up_eq
    have mf : MF M (up M 159 0 0) := MF.t0 M 0
    have et : up M 159 0 0 159 1 = s.2.1 10 8 := h1.2.2.2.2.1.2.1
    have no2 : ¬ (0 ≤ n ∧ n ≤ s.2.1 10 8) → an_hall n s = nay s 2 := fun c => if_pos c
    have body : (0 ≤ n ∧ n ≤ s.2.1 10 8) → J 33 [some (vR 159), some (vI n), none, none] [] (up M 159 0 0) := by
      intro c1
      have ea : an_hall n s = _ := if_neg (fun z => z c1)
      rw [ea] at hQ
      generalize up M 159 0 0 = M1 at h1 e0 mf
      -- the hall is taken over
      have take : ∀ (x : Int) (z3 : Option Vl) (M8 A : Mem), RdP M8 A → (∀ (x : Int) (z3 : Option Vl) (N : Mem), HC M8 N A 4 → J 306 [some (vR 159), some (vI n), some (vI x), z3] [] N) → J 110 [some (vR 159), some (vI n), some (vI x), z3] [] M8 := by
        intro x z3 M8 A hrd fin
        have okA := hrd.1
        obtain ⟨q1, q2⟩ := nP_le okA
        obtain ⟨q3, q4⟩ := nT_le okA
        obtain ⟨q5, q6⟩ := nD_le okA
        obtain ⟨q7, q8⟩ := nM_le okA
        obtain ⟨a0, a1, a2, a3, a4⟩ := hrd.2.1
      
        have stg4 : ∀ (x : Int) (z3 : Option Vl) (N0 : Mem), HC M8 N0 A 3 → J 259 [some (vR 159), some (vI n), some (vI x), z3] [] N0 := by
          intro x z3 N0 hc
          have tld : ∀ j, j < 5 → N0 163 j = M8 162 j := hc.2.1
      
          have k4_g : N0 163 3 = A 10 4 := (tld 3 (by decide)).trans a3
          have k4 : ∀ i, i ≤ nM A → ∀ (x : Int) (N : Mem) (z3 : Option Vl), x = (i : Int) → Cp N0 N 226 217 3 (nM A) (fun j k => j < i) → J 261 [some (vR 159), some (vI n), some (vI x), z3] [] N := by
            refine dn ?_ ?_
            · intro x N z3 hx hp
              exact R_X11_hall_261 R (an o159 (an (ak_of sh163 (by decide) (by decide)) (bt (show N 163 3 ≤ x by rw [hp.1 _ _ (by omega), k4_g]; omega) ((fin _ _ N (HC_4 okA hc (hp.mono (fun j k h1 h2 _ => h1))))))))
            · intro i hi ih x N z3 hx hp
              have hxn : x.toNat = i := by omega
              have inner : ∀ c : Nat, c ≤ 3 → ∀ (y : Int) (N : Mem), y = (c : Int) → Cp N0 N 226 217 3 (nM A) (fun j k => j < i ∨ (j = i ∧ k < c)) → J 273 [some (vR 159), some (vI n), some (vI x), some (vI y)] [] N := by
                refine dn ?_ ?_
                · intro y N hy hp
                  exact R_X11_hall_273 R (bt (show (3 : Int) ≤ y by omega) (R_X11_hall_300 R (ih _ _ _ (wn hx (by omega)) (hp.mono (fun j k h1 h2 h3 => by omega)))))
                · intro c hc ihc y N hy hp
                  have hyn : y.toNat = c := by omega
                  refine R_X11_hall_273 R (bf (show ¬ (3 : Int) ≤ y by omega) (an o159 (an (ak_of sh225 (by omega) (by omega)) ?_)))
                  rw [mo_row hxn]
                  refine an o159 (an (ak_of sh216 (by omega) (by omega)) ?_)
                  rw [rm_row hxn]
                  refine an (ak_of (sh_rm i (by omega)) (by omega) (by omega)) (an (ak_of (sh_mo i (by omega)) (by omega) (by omega)) (ihc _ _ (wn hy (by omega)) ?_))
                  rw [hyn]
                  exact hp.put (by omega) hi (fun j k h1 h2 h3 => by omega)
              exact R_X11_hall_261 R (an o159 (an (ak_of sh163 (by decide) (by decide)) (bf (show ¬ N 163 3 ≤ x by rw [hp.1 _ _ (by omega), k4_g]; omega) (inner 0 (Nat.zero_le _) _ N rfl (hp.mono (fun j k h1 h2 h3 => by omega))))))
      
          exact R_X11_hall_259 R (k4 0 (Nat.zero_le _) _ N0 _ rfl ⟨fun _ _ _ => rfl, fun j k _ _ h => absurd h (Nat.not_lt_zero j)⟩)
      
        have stg3 : ∀ (x : Int) (z3 : Option Vl) (N0 : Mem), HC M8 N0 A 2 → J 229 [some (vR 159), some (vI n), some (vI x), z3] [] N0 := by
          intro x z3 N0 hc
          have tld : ∀ j, j < 5 → N0 163 j = M8 162 j := hc.2.1
      
          have g3 : N0 163 2 = A 10 3 := (tld 2 (by decide)).trans a2
          have key : ∀ i, i ≤ nD A → ∀ (x : Int) (N : Mem), x = (i : Int) → (∀ u v, u ≠ 277 → N u v = N0 u v) → (∀ d, d < i → N 277 d = N0 276 d) → J 231 [some (vR 159), some (vI n), some (vI x), z3] [] N := by
            refine dn ?_ ?_
            · intro x N hx hf hd
              exact R_X11_hall_231 R (an o159 (an (ak_of sh163 (by decide) (by decide)) (bt (show N 163 2 ≤ x by rw [hf _ _ (by omega), g3]; omega) (stg4 _ _ N (HC_3 okA hc hf hd)))))
            · intro i hi ih x N hx hf hd
              have hxn : x.toNat = i := by omega
              refine R_X11_hall_231 R (an o159 (an (ak_of sh163 (by decide) (by decide)) (bf (show ¬ N 163 2 ≤ x by rw [hf _ _ (by omega), g3]; omega) (an o159 (an o159 (an (ak_of sh276 (by omega) (by omega)) (an (ak_of sh277 (by omega) (by omega)) (ih _ _ (wn hx (by omega)) (fun u v hu => ?_) (fun d hd' => ?_)))))))))
              · rw [up_ne (by omega)]; exact hf u v hu
              · rw [hxn]
                by_cases q : d = i
                · subst q
                  rw [show (159 + 118 : Nat) = 277 from rfl, up_eq]
                  exact hf _ _ (by omega)
                · rw [up_ne (by omega)]; exact hd d (by omega)
          exact R_X11_hall_229 R (key 0 (Nat.zero_le _) _ N0 rfl (fun _ _ _ => rfl) (fun d hd => absurd hd (Nat.not_lt_zero d)))
      
        have stg2 : ∀ (x : Int) (z3 : Option Vl) (N0 : Mem), HC M8 N0 A 1 → J 182 [some (vR 159), some (vI n), some (vI x), z3] [] N0 := by
          intro x z3 N0 hc
          have tld : ∀ j, j < 5 → N0 163 j = M8 162 j := hc.2.1
      
          have k2_g : N0 163 1 = A 10 2 := (tld 1 (by decide)).trans a1
          have k2 : ∀ i, i ≤ nT A → ∀ (x : Int) (N : Mem) (z3 : Option Vl), x = (i : Int) → Cp N0 N 202 187 4 (nT A) (fun j k => j < i) → J 184 [some (vR 159), some (vI n), some (vI x), z3] [] N := by
            refine dn ?_ ?_
            · intro x N z3 hx hp
              exact R_X11_hall_184 R (an o159 (an (ak_of sh163 (by decide) (by decide)) (bt (show N 163 1 ≤ x by rw [hp.1 _ _ (by omega), k2_g]; omega) ((stg3 _ _ N (HC_2 okA hc (hp.mono (fun j k h1 h2 _ => h1))))))))
            · intro i hi ih x N z3 hx hp
              have hxn : x.toNat = i := by omega
              have inner : ∀ c : Nat, c ≤ 4 → ∀ (y : Int) (N : Mem), y = (c : Int) → Cp N0 N 202 187 4 (nT A) (fun j k => j < i ∨ (j = i ∧ k < c)) → J 196 [some (vR 159), some (vI n), some (vI x), some (vI y)] [] N := by
                refine dn ?_ ?_
                · intro y N hy hp
                  exact R_X11_hall_196 R (bt (show (4 : Int) ≤ y by omega) (R_X11_hall_223 R (ih _ _ _ (wn hx (by omega)) (hp.mono (fun j k h1 h2 h3 => by omega)))))
                · intro c hc ihc y N hy hp
                  have hyn : y.toNat = c := by omega
                  refine R_X11_hall_196 R (bf (show ¬ (4 : Int) ≤ y by omega) (an o159 (an (ak_of sh201 (by omega) (by omega)) ?_)))
                  rw [th_row hxn]
                  refine an o159 (an (ak_of sh186 (by omega) (by omega)) ?_)
                  rw [rt_row hxn]
                  refine an (ak_of (sh_rt i (by omega)) (by omega) (by omega)) (an (ak_of (sh_th i (by omega)) (by omega) (by omega)) (ihc _ _ (wn hy (by omega)) ?_))
                  rw [hyn]
                  exact hp.put (by omega) hi (fun j k h1 h2 h3 => by omega)
              exact R_X11_hall_184 R (an o159 (an (ak_of sh163 (by decide) (by decide)) (bf (show ¬ N 163 1 ≤ x by rw [hp.1 _ _ (by omega), k2_g]; omega) (inner 0 (Nat.zero_le _) _ N rfl (hp.mono (fun j k h1 h2 h3 => by omega))))))
      
          exact R_X11_hall_182 R (k2 0 (Nat.zero_le _) _ N0 _ rfl ⟨fun _ _ _ => rfl, fun j k _ _ h => absurd h (Nat.not_lt_zero j)⟩)
      
        have stg1 : ∀ (x : Int) (z3 : Option Vl) (N0 : Mem), HC M8 N0 A 0 → J 135 [some (vR 159), some (vI n), some (vI x), z3] [] N0 := by
          intro x z3 N0 hc
          have tld : ∀ j, j < 5 → N0 163 j = M8 162 j := hc.2.1
      
          have k1_g : N0 163 0 = A 10 1 := (tld 0 (by decide)).trans a0
          have k1 : ∀ i, i ≤ nP A → ∀ (x : Int) (N : Mem) (z3 : Option Vl), x = (i : Int) → Cp N0 N 176 165 2 (nP A) (fun j k => j < i) → J 137 [some (vR 159), some (vI n), some (vI x), z3] [] N := by
            refine dn ?_ ?_
            · intro x N z3 hx hp
              exact R_X11_hall_137 R (an o159 (an (ak_of sh163 (by decide) (by decide)) (bt (show N 163 0 ≤ x by rw [hp.1 _ _ (by omega), k1_g]; omega) ((stg2 _ _ N (HC_1 okA hc (hp.mono (fun j k h1 h2 _ => h1))))))))
            · intro i hi ih x N z3 hx hp
              have hxn : x.toNat = i := by omega
              have inner : ∀ c : Nat, c ≤ 2 → ∀ (y : Int) (N : Mem), y = (c : Int) → Cp N0 N 176 165 2 (nP A) (fun j k => j < i ∨ (j = i ∧ k < c)) → J 149 [some (vR 159), some (vI n), some (vI x), some (vI y)] [] N := by
                refine dn ?_ ?_
                · intro y N hy hp
                  exact R_X11_hall_149 R (bt (show (2 : Int) ≤ y by omega) (R_X11_hall_176 R (ih _ _ _ (wn hx (by omega)) (hp.mono (fun j k h1 h2 h3 => by omega)))))
                · intro c hc ihc y N hy hp
                  have hyn : y.toNat = c := by omega
                  refine R_X11_hall_149 R (bf (show ¬ (2 : Int) ≤ y by omega) (an o159 (an (ak_of sh175 (by omega) (by omega)) ?_)))
                  rw [pe_row hxn]
                  refine an o159 (an (ak_of sh164 (by omega) (by omega)) ?_)
                  rw [rp_row hxn]
                  refine an (ak_of (sh_rp i (by omega)) (by omega) (by omega)) (an (ak_of (sh_pe i (by omega)) (by omega) (by omega)) (ihc _ _ (wn hy (by omega)) ?_))
                  rw [hyn]
                  exact hp.put (by omega) hi (fun j k h1 h2 h3 => by omega)
              exact R_X11_hall_137 R (an o159 (an (ak_of sh163 (by decide) (by decide)) (bf (show ¬ N 163 0 ≤ x by rw [hp.1 _ _ (by omega), k1_g]; omega) (inner 0 (Nat.zero_le _) _ N rfl (hp.mono (fun j k h1 h2 h3 => by omega))))))
      
          exact R_X11_hall_135 R (k1 0 (Nat.zero_le _) _ N0 _ rfl ⟨fun _ _ _ => rfl, fun j k _ _ h => absurd h (Nat.not_lt_zero j)⟩)
      
        have key : ∀ i : Nat, i ≤ 5 → ∀ (x : Int) (N : Mem), x = (i : Int) → (∀ u v, u ≠ 163 → N u v = M8 u v) → (∀ k, k < i → N 163 k = M8 162 k) → J 112 [some (vR 159), some (vI n), some (vI x), z3] [] N := by
          refine dn ?_ ?_
          · intro x N hx hf hd
            exact R_X11_hall_112 R (bt (show (5 : Int) ≤ x by omega) (stg1 _ _ N ⟨fun u v h1 _ _ _ _ => hf u v h1, hd, fun z => by omega, fun z => by omega, fun z => by omega, fun z => by omega⟩))
          · intro i hi ih x N hx hf hd
            have hxn : x.toNat = i := by omega
            refine R_X11_hall_112 R (bf (show ¬ (5 : Int) ≤ x by omega) (an o159 (an o159 (an (ak_of sh162 (by omega) (by omega)) (an (ak_of sh163 (by omega) (by omega)) (ih _ _ (wn hx (by omega)) (fun u v hu => ?_) (fun d hd' => ?_)))))))
            · rw [up_ne (by omega)]; exact hf u v hu
            · rw [hxn]
              by_cases q : d = i
              · subst q
                rw [show (159 + 4 : Nat) = 163 from rfl, up_eq]
                exact hf _ _ (by omega)
              · rw [up_ne (by omega)]; exact hd d (by omega)
        exact R_X11_hall_110 R (key 0 (Nat.zero_le _) _ M8 rfl (fun _ _ _ => rfl) (fun d hd => absurd hd (Nat.not_lt_zero d)))
      
      obtain ⟨tok, tt1, tt3, tB⟩ := h1.2.2.2.2.1
      have tb := tok.1
      generalize hR : hlR s n = Rz at hQ
      refine R_X11_hall_33 R (an o159 ⟨fun i => s.2.1 18 i, ⟨rfl, c1.1, by omega⟩, fun i hi => ⟨tB i hi, tok.2 i hi⟩, fun M2 f2 e21 e27 ts2 => ?_⟩)
      generalize hB : (fun i => s.2.1 18 i) = B at ts2
      have hR : prS B n.toNat 61 (Ab0, (0, 0, 0, -1)) = Rz := by rw [← hB]; exact hR
      generalize n.toNat = e at ts2 hR
      have e600 := ts2.2.2.2.2.1
      have okR : HallOK Rz.1 := by rw [← hR]; exact pr_ok ab0_ok
      -- what the call may change
      have RCk : ∀ M3 : Mem, CFr M2 M3 → ∀ u v, RC u v → ¬ (u = 159 ∧ v = 1) → M3 u v = M1 u v := fun M3 cf u v hu h1v => (cf u v (by unfold RC at hu; omega) (by unfold RC at hu; unfold RdC; omega)).trans (f2 u v (by unfold RC at hu; omega))
      have MFk : ∀ M3 : Mem, CFr M2 M3 → ∀ u v, (u < 159 ∨ 336 ≤ u) → M3 u v = M u v := fun M3 cf u v hu => (cf u v (by omega) (by unfold RdC; omega)).trans ((f2 u v (by omega)).trans (mf u v hu))
      have z0k : ∀ M3 : Mem, CFr M2 M3 → M3 159 0 = 0 := fun M3 cf => (cf _ _ (by omega) (by unfold RdC; omega)).trans ((f2 _ _ (by omega)).trans e0)
      have z1k : ∀ M3 : Mem, CFr M2 M3 → M3 159 1 = 0 := fun M3 cf => (cf _ _ (by omega) (by unfold RdC; omega)).trans e21
      have z37 : ∀ M3 : Mem, CFr M2 M3 → 0 ≤ M3 159 37 ∧ M3 159 37 ≤ 1000 := fun M3 cf => by rw [cf _ _ (by omega) (by unfold RdC; omega), f2 _ _ (by omega)]; exact h1.2.2.2.2.2.2.2
      have tk : ∀ fp : Int, TaOK (s.1, tpA s.2.1 fp, s.2.2) := fun fp => by
        refine ⟨?_, fun i hi => ?_⟩
        · show 0 ≤ up (up s.2.1 10 8 0) 10 9 fp 10 8 ∧ up (up s.2.1 10 8 0) 10 9 fp 10 8 ≤ 600
          rw [up_ne (by omega), up_eq]; decide
        · show 0 ≤ up (up s.2.1 10 8 0) 10 9 fp 18 i ∧ up (up s.2.1 10 8 0) 10 9 fp 18 i < 256
          rw [up_ne (by omega), up_ne (by omega)]; exact tok.2 i hi
      have ta : ∀ (fp : Int) u v, ¬ (u = 10 ∧ (v = 8 ∨ v = 9)) → tpA s.2.1 fp u v = s.2.1 u v := fun fp u v h => by unfold tpA; rw [up_ne (by omega), up_ne (by omega)]
      have ta8 : ∀ fp : Int, tpA s.2.1 fp 10 8 = 0 := fun fp => by unfold tpA; rw [up_ne (by omega), up_eq]
      have ta9 : ∀ fp : Int, tpA s.2.1 fp 10 9 = fp := fun fp => by unfold tpA; rw [up_eq]
      -- behind the text
      have at87 : ∀ (x : Int) (z3 : Option Vl) (M3 : Mem), CFr M2 M3 → M3 159 5 = Rz.2.2.2.1 → M3 159 6 = Rz.2.2.2.2 → (Rz.2.2.2.1 = 0 → RdP M3 Rz.1 ∧ Rz.2.2.2.2 = -1) → J 87 [some (vR 159), some (vI n), some (vI x), z3] [] M3 := by
        intro x z3 M3 cf h5 h6 hok
        have RC3 := RCk M3 cf
        refine R_X11_hall_87 R (an o159 (an o159 (an o159 ?_)))
        generalize hM4 : up M3 159 3 (M3 159 6) = M4
        have f4 : ∀ u v, ¬ (u = 159 ∧ v = 3) → M4 u v = M3 u v := fun u v h => by rw [← hM4, up_ne h]
        have e3 : M4 159 3 = Rz.2.2.2.2 := by rw [← hM4, up_eq]; exact h6
        have e5 : M4 159 5 = Rz.2.2.2.1 := (f4 _ _ (by omega)).trans h5
        refine br (fun g => ?_) (fun g => an o159 ?_)
        · have g : M4 159 5 = 0 := g
          rw [e5] at g
          rw [if_neg (fun z => z g)] at hQ
          obtain ⟨hrd, hfp⟩ := hok g
          refine take x z3 M4 Rz.1 (hrd.kept (fun u v hu => f4 u v (by unfold RdC at hu; omega))) (fun x z3 N hc => R_X11_hall_306 R (an o159 (an o159 (an o159 (an o159 (an (ak_of sh163 (by decide) (by decide)) ?_))))))
          generalize hN2 : up (up (up N 159 22 0) 159 23 0) 159 24 0 = N2
          have g2 : ∀ u v, ¬ (u = 159 ∧ (v = 22 ∨ v = 23 ∨ v = 24)) → N2 u v = N u v := fun u v h => by rw [← hN2, up_ne (by omega), up_ne (by omega), up_ne (by omega)]
          have w22 : N2 159 22 = 0 := by rw [← hN2, up_ne (by omega), up_ne (by omega), up_eq]
          have w23 : N2 159 23 = 0 := by rw [← hN2, up_ne (by omega), up_eq]
          have w24 : N2 159 24 = 0 := by rw [← hN2, up_eq]
          have nk : ∀ u v, (u < 160 ∨ u = 160 ∨ u = 161 ∨ 288 ≤ u) → ¬ (u = 159 ∧ (v = 3 ∨ v = 22 ∨ v = 23 ∨ v = 24)) → N2 u v = M3 u v := fun u v a b => by rw [g2 u v (by omega), hc.1 u v (by omega) (by omega) (by omega) (by omega) (by omega), f4 u v (by omega)]
          have mdp : MdP N2 Rz.1 := (Rd_Md (hrd.kept (M' := M4) (fun u v hu => f4 u v (by unfold RdC at hu; omega))) hc.2.1 (hc.2.2.1 (by decide)) (hc.2.2.2.1 (by decide)) (hc.2.2.2.2.1 (by decide)) (hc.2.2.2.2.2 (by decide))).kept2 (fun u v a b => g2 u v (by omega))
          have shh : SameH (up (up Rz.1 10 5 0) 10 6 0) Rz.1 := (SameH.up (by omega)).tr (SameH.up (by omega))
          have c5 : up (up Rz.1 10 5 0) 10 6 0 10 5 = 0 := by rw [up_ne (by omega), up_eq]
          have c6 : up (up Rz.1 10 5 0) 10 6 0 10 6 = 0 := up_eq
          have c7 : up (tpA s.2.1 (-1)) 10 7 0 10 7 = 0 := up_eq
          have tu : ∀ u v, ¬ (u = 10 ∧ (v = 7 ∨ v = 8 ∨ v = 9)) → up (tpA s.2.1 (-1)) 10 7 0 u v = s.2.1 u v := fun u v h => by rw [up_ne (by omega), ta _ _ _ (by omega)]
          have ret : N2 (159 + 4) (Int.toNat 0) = Rz.1 10 1 := mdp.2.1.1
          show Q (.inl (some (vI (N2 (159 + 4) (Int.toNat 0))))) N2
          refine hQ N2 _ (fun u v hu => (nk u v (by omega) (by omega)).trans (MFk M3 cf u v hu)) ⟨mdp.same shh, ⟨?_, ?_, fun i hi => ?_⟩, ⟨?_, ?_, fun i hi => ?_⟩, ⟨⟨?_, fun i hi => ?_⟩, ?_, fun i hi => ?_⟩, ⟨⟨?_, fun i hi => ?_⟩, ?_, ?_, fun i hi => ?_⟩, ⟨?_, ?_⟩, ?_, ?_⟩ ((nk _ _ (by omega) (by omega)).trans (z0k M3 cf)) (fun _ => ret)
          · show LoanOK _ 11 (up (up Rz.1 10 5 0) 10 6 0 10 5)
            rw [c5]; exact ⟨by decide, fun i hi => absurd hi (Nat.not_lt_zero i)⟩
          · show N2 159 22 = up (up Rz.1 10 5 0) 10 6 0 10 5
            rw [w22, c5]
          · have hi : i < (up (up Rz.1 10 5 0) 10 6 0 10 5).toNat := hi
            rw [c5] at hi; exact absurd hi (Nat.not_lt_zero i)
          · show VoteOK _ 15 (up (up Rz.1 10 5 0) 10 6 0 10 6)
            rw [c6]; exact ⟨by decide, fun i hi => absurd hi (Nat.not_lt_zero i)⟩
          · show N2 159 23 = up (up Rz.1 10 5 0) 10 6 0 10 6
            rw [w23, c6]
          · have hi : i < (up (up Rz.1 10 5 0) 10 6 0 10 6).toNat := hi
            rw [c6] at hi; exact absurd hi (Nat.not_lt_zero i)
          · show 0 ≤ up (tpA s.2.1 (-1)) 10 7 0 10 7 ∧ up (tpA s.2.1 (-1)) 10 7 0 10 7 ≤ 3
            rw [c7]; decide
          · have hi : i < (up (tpA s.2.1 (-1)) 10 7 0 10 7).toNat := hi
            rw [c7] at hi; exact absurd hi (Nat.not_lt_zero i)
          · show N2 159 24 = up (tpA s.2.1 (-1)) 10 7 0 10 7
            rw [w24, c7]
          · have hi : i < (up (tpA s.2.1 (-1)) 10 7 0 10 7).toNat := hi
            rw [c7] at hi; exact absurd hi (Nat.not_lt_zero i)
          · show 0 ≤ up (tpA s.2.1 (-1)) 10 7 0 10 8 ∧ up (tpA s.2.1 (-1)) 10 7 0 10 8 ≤ 600
            rw [up_ne (by omega), ta8]; decide
          · show 0 ≤ up (tpA s.2.1 (-1)) 10 7 0 18 i ∧ up (tpA s.2.1 (-1)) 10 7 0 18 i < 256
            rw [tu _ _ (by omega)]; exact tok.2 i hi
          · show _ = up (tpA s.2.1 (-1)) 10 7 0 10 8
            rw [up_ne (by omega), ta8, nk _ _ (by omega) (by omega)]; exact z1k M3 cf
          · show _ = up (tpA s.2.1 (-1)) 10 7 0 10 9
            rw [up_ne (by omega), ta9, g2 _ _ (by omega), hc.1 _ _ (by omega) (by omega) (by omega) (by omega) (by omega), e3]; exact hfp
          · show _ = up (tpA s.2.1 (-1)) 10 7 0 18 i
            rw [tu _ _ (by omega), nk _ _ (by omega) (by omega), RC3 _ _ (by unfold RC; omega) (by omega)]; exact tB i hi
          · show _ = up (tpA s.2.1 (-1)) 10 7 0 10 10
            rw [tu _ _ (by omega), nk _ _ (by omega) (by omega), RC3 _ _ (by unfold RC; omega) (by omega)]; exact h1.2.2.2.2.2.1.1
          · show _ = up (tpA s.2.1 (-1)) 10 7 0 10 11
            rw [tu _ _ (by omega), nk _ _ (by omega) (by omega), RC3 _ _ (by unfold RC; omega) (by omega)]; exact h1.2.2.2.2.2.1.2
          · rw [nk _ _ (by omega) (by omega), RC3 _ _ (by unfold RC; omega) (by omega)]; exact h1.2.2.2.2.2.2.1
          · rw [nk _ _ (by omega) (by omega)]; exact z37 M3 cf
        · have g : ¬ M4 159 5 = 0 := g
          rw [e5] at g
          rw [if_pos g] at hQ
          refine hQ M4 _ (fun u v hu => (f4 u v (by omega)).trans (MFk M3 cf u v hu)) (Mdl_tp h1 (fun u v hu hv => (f4 u v (by omega)).trans (RC3 u v hu (by omega))) ((f4 _ _ (by omega)).trans (z1k M3 cf)) e3 (by rw [f4 _ _ (by omega)]; exact z37 M3 cf)) ((f4 _ _ (by omega)).trans (z0k M3 cf)) (fun _ => ?_)
          show f_sub (M4 159 5) 10 = f_sub Rz.2.2.2.1 10
          rw [e5]
      have loop : ∀ c : Nat, c ≤ 61 → ∀ (x : Int) (z3 : Option Vl) (N : Mem) (a : Mem × Tp), CFr M2 N → TRs N B e (sk cBl B e a.2.1, a.2.2) → (a.2.2.2.1 = 0 → RdP N a.1 ∧ N 159 7 = (c : Int) ∧ c ≤ 60 ∧ a.2.2.2.2 = -1 ∧ a.2.1 ≤ e) → prS B e (61 - c) a = Rz → J 58 [some (vR 159), some (vI n), some (vI x), z3] [] N := by
        have faulty : ∀ (c : Nat) (x : Int) (z3 : Option Vl) (N : Mem) (a : Mem × Tp), CFr M2 N → TRs N B e (sk cBl B e a.2.1, a.2.2) → ¬ a.2.2.2.1 = 0 → prS B e (61 - c) a = Rz → J 58 [some (vR 159), some (vI n), some (vI x), z3] [] N := by
          intro c x z3 N a cf ts hf hp
          rw [pr_no hf] at hp
          subst hp
          have f5 : ¬ N 159 5 = 0 := by rw [ts.fk]; exact hf
          exact R_X11_hall_58 R (an o159 (bt f5 (at87 x z3 N cf ts.fk ts.fp (fun z => absurd z hf))))
        refine dn ?_ ?_
        · intro x z3 N a cf ts hk hp
          by_cases q : a.2.2.2.1 = 0
          · have := (hk q).2.2.1; omega
          · exact faulty 61 x z3 N a cf ts q hp
        · intro c hc ih x z3 N a cf ts hk hp
          by_cases q : a.2.2.2.1 = 0
          · obtain ⟨hrd, h7, hc60, hfp, hle⟩ := hk q
            have f5 : N 159 5 = 0 := by rw [ts.fk]; exact q
            have a4 : N 159 4 = ((sk cBl B e a.2.1 : Nat) : Int) := ts.at q
            have e2 : N 159 2 = (e : Int) := by obtain ⟨p, tx, -⟩ := ts; exact tx.1
            refine R_X11_hall_58 R (an o159 (bf (fun z => z f5) (an o159 (an o159 (br (fun g => ?_) (fun g => an o159 ?_))))))
            · have g : N 159 2 ≤ N 159 4 := g
              have nl : ¬ sk cBl B e a.2.1 < e := by omega
              rw [show 61 - c = (60 - c) + 1 by omega, pr_end q nl] at hp
              subst hp
              exact at87 x z3 N cf ts.fk ts.fp (fun _ => ⟨hrd, hfp⟩)
            · have g : ¬ N 159 2 ≤ N 159 4 := g
              have lt : sk cBl B e a.2.1 < e := by omega
              rw [pr_go (by omega) q hle lt] at hp
              have tx : TRx N B e (sk cBl B e a.2.1) 0 a.2.2.2.2 := by
                obtain ⟨p, tx, hpp⟩ := ts
                have hpp := hpp q
                have hpp : p = sk cBl B e a.2.1 := hpp
                rw [hpp] at tx
                have tx : TRx N B e (sk cBl B e a.2.1) a.2.2.2.1 a.2.2.2.2 := tx
                rw [q] at tx
                exact tx
              refine ⟨B, e, sk cBl B e a.2.1, a.2.2.2.2, a.1, c, ⟨rfl, hc60, h7⟩, tx, hrd, fun N2 cf2 ts2 hd2 => an o159 (r_bl ts2 (fun N3 tf3 ts3 => ?_))⟩
              refine ih x z3 N3 (clA B e a.1 c (sk cBl B e a.2.1) a.2.2.2.2) (cf.tr (cf2.tr (CFr.tf tf3))) ts3 (fun z => ?_) hp
              obtain ⟨d1, d2⟩ := hd2 z
              refine ⟨d1.tf tf3, (tf3 _ _ (by omega)).trans d2, ?_, ?_, ?_⟩
              · by_cases q2 : c < 60
                · omega
                · exfalso
                  have z2 : (clT B e a.1 (if c < 60 then 1 else 0) (sk cLt B e (sk cBl B e (sk cBl B e a.2.1)), sk cBl B e (sk cBl B e a.2.1), 0, a.2.2.2.2)).2.2.1 = 0 := st_fk z
                  rw [if_neg q2] at z2
                  exact cl_full rfl z2
              · exact (st_fp z).trans ((cl_fp (st_fk z)).trans hfp)
              · obtain ⟨p, tx3, hp3⟩ := ts2
                rw [← hp3 z]; exact tx3.2.2.2.2.2.1
          · exact faulty c x z3 N a cf ts q hp
      have zero : ∀ i : Nat, i ≤ 5 → ∀ (x : Int) (N : Mem), x = (i : Int) → (∀ u v, u ≠ 162 → N u v = M2 u v) → (∀ k, k < i → N 162 k = 0) → J 40 [some (vR 159), some (vI n), some (vI x), none] [] N := by
        refine dn ?_ ?_
        · intro x N hx hf hz
          refine R_X11_hall_40 R (bt (show (5 : Int) ≤ x by omega) (loop 0 (by decide) x none N (Ab0, (0, 0, 0, -1)) (fun u v _ h => hf u v (fun z => h (by unfold RdC; omega))) ?_ (fun _ => ⟨?_, ?_, by decide, rfl, Nat.zero_le _⟩) hR))
          · exact TRs.kept (M := M2) (s := (sk cBl B e 0, 0, 0, -1)) ⟨sk cBl B e 0, ts2, fun _ => rfl⟩ (fun v _ _ => hf _ _ (by omega)) (fun i => hf _ _ (by omega))
          · exact ⟨ab0_ok, ⟨hz 0 (by decide), hz 1 (by decide), hz 2 (by decide), hz 3 (by decide), hz 4 (by decide)⟩, fun p hp => absurd hp (Nat.not_lt_zero p), fun p hp => absurd hp (Nat.not_lt_zero p), fun p hp => absurd hp (Nat.not_lt_zero p), fun p hp => absurd hp (Nat.not_lt_zero p)⟩
          · exact (hf _ _ (by omega)).trans e27
        · intro i hi ih x N hx hf hz
          have hxn : x.toNat = i := by omega
          refine R_X11_hall_40 R (bf (show ¬ (5 : Int) ≤ x by omega) (an o159 (an (ak_of sh162 (by omega) (by omega)) (ih _ _ (wn hx (by omega)) (fun u v hu => ?_) (fun k hk => ?_)))))
          · rw [up_ne (by omega)]; exact hf u v hu
          · rw [hxn]
            by_cases q : k = i
            · subst q; exact up_eq
            · rw [up_ne (by omega)]; exact hz k (by omega)
      exact zero 0 (Nat.zero_le _) _ M2 rfl (fun _ _ _ => rfl) (fun k hk => absurd hk (Nat.not_lt_zero k))
    have atB : ∀ b : Int, (b = 0 ∧ (0 ≤ n ∧ n ≤ s.2.1 10 8)) ∨ (b = 1 ∧ ¬ (0 ≤ n ∧ n ≤ s.2.1 10 8)) → J 23 [some (vR 159), some (vI n), none, none] [vI b, vR 159] (up M 159 0 0) := by
      intro b hb
      rcases hb with ⟨rfl, c2⟩ | ⟨rfl, c2⟩
      · exact R_X11_hall_23 R (an o159 ⟨⟨rfl, by decide, by decide, e0⟩, fun z => absurd rfl z, fun _ => bt rfl (body c2)⟩)
      · exact R_X11_hall_23 R (an o159 ⟨⟨rfl, by decide, by decide, e0⟩, fun _ => bf (by decide) (m_no (cd := cd1) (Q := fun r M' => Q (.inl r) M') hM 2 1 (by decide) rfl (no2 c2) 0 hQ), fun z => absurd z (by decide)⟩)
    exact ⟨Nat.le_of_ble_eq_true rfl, R_X11_hall_0 R (an o159 (an o159 (br (fun d0 => bt (by decide) (R_X11_hall_22 R (atB 0 (Or.inl ⟨rfl, by omega⟩)))) (fun d0 => bf (by decide) (atB 1 (Or.inr ⟨rfl, by omega⟩))))))⟩

  · exact h.elim