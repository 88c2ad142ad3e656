/-! THE STATE of both, and what each call answers: (hall, lendings, votes; tape, fault, refusals, images' number; images) -/
abbrev AS : Type := Mem × Mem × (Nat → Mem)
/-- 0 it answers, 1 no such element, 2 illegal argument; the answer; the state behind it -/
abbrev An : Type := Nat × Int × AS
def rfA (s : AS) (e : Nat) : AS := (s.1, up s.2.1 10 (9 + e) (f_add (s.2.1 10 (9 + e)) 1), s.2.2)
def nay (s : AS) (e : Nat) : An := (e, 0, rfA s e)
def yea (s : AS) (v : Int) : An := (0, v, s)
def SameH (A B : Mem) : Prop := (∀ u v, u ≤ 9 → A u v = B u v) ∧ ∀ v, v ≤ 4 → A 10 v = B 10 v
def nI3 (s : AS) : Nat := (s.2.1 10 7).toNat
def ImOK (s : AS) : Prop := (0 ≤ s.2.1 10 7 ∧ s.2.1 10 7 ≤ 3) ∧ ∀ i, i < nI3 s → SameH (s.2.2 i) s.1 ∧ LoanOK (s.2.2 i) 11 (s.2.2 i 10 5) ∧ VoteOK (s.2.2 i) 15 (s.2.2 i 10 6)
def TaOK (s : AS) : Prop := (0 ≤ s.2.1 10 8 ∧ s.2.1 10 8 ≤ 600) ∧ ∀ i, i < 600 → 0 ≤ s.2.1 18 i ∧ s.2.1 18 i < 256
/-- the class's cells -/
def Cls (M : Mem) (s : AS) : Prop :=
  CuR M s.1 ∧ (((M 0 1).toNat = 3 ∧ (M 0 2).toNat = 14) ∨ ((M 0 1).toNat = 14 ∧ (M 0 2).toNat = 3)) ∧ (((M 0 3).toNat = 25 ∧ (M 0 4).toNat = 30) ∨ ((M 0 3).toNat = 30 ∧ (M 0 4).toNat = 25)) ∧
  (BalRel M 35 s.1 15 (s.1 10 6) ∧ VoteOK s.1 15 (s.1 10 6)) ∧
  (ImOK s ∧ M 0 8 = s.2.1 10 7 ∧ ∀ i, i < nI3 s → LoanRel M (132 + 9 * i) (s.2.2 i) 11 (s.2.2 i 10 5) ∧ BalRel M (137 + 9 * i) (s.2.2 i) 15 (s.2.2 i 10 6)) ∧
  (TaOK s ∧ M 1 1 = s.2.1 10 8 ∧ M 1 6 = s.2.1 10 9 ∧ ∀ i, i < 600 → M 2 i = w8 (s.2.1 18 i)) ∧
  (M 0 16 = s.2.1 10 10 ∧ M 0 17 = s.2.1 10 11) ∧
  (¬ M 41 4 = 0 → CuK M s.1) ∧ (¬ M 129 0 = 0 → HolRel M s.1)
/-- the reference's cells -/
def MdI (M : Mem) (s : AS) : Prop := ImOK s ∧ M 159 24 = s.2.1 10 7 ∧ ∀ i, i < nI3 s → M (289 + i) 0 = s.2.2 i 10 5 ∧ M (289 + i) 1 = s.2.2 i 10 6 ∧ (∀ j c, j < (s.2.2 i 10 5).toNat → c < 4 → M (289 + i) (2 + 4 * j + c) = s.2.2 i (11 + c) j) ∧ ∀ j c, j < (s.2.2 i 10 6).toNat → c < 3 → M (289 + i) (82 + 3 * j + c) = s.2.2 i (15 + c) j
def Mdl (M : Mem) (s : AS) : Prop :=
  MdP M s.1 ∧ MdL M s.1 ∧ MdV M s.1 ∧ MdI M s ∧ (TaOK s ∧ M 159 1 = s.2.1 10 8 ∧ M 159 3 = s.2.1 10 9 ∧ ∀ i, i < 600 → M 160 i = s.2.1 18 i) ∧ (M 161 0 = s.2.1 10 10 ∧ M 161 1 = s.2.1 10 11) ∧ (M 159 35 = -1 ∧ 0 ≤ M 159 37 ∧ M 159 37 ≤ 1000)
def CF (M M' : Mem) : Prop := ∀ u v, 159 ≤ u → M' u v = M u v
def MF (M M' : Mem) : Prop := ∀ u v, (u < 159 ∨ 336 ≤ u) → M' u v = M u v
/-- a call of the class's face; of the reference's -/
def cQ (a : An) (Q : QT) (M' : Mem) : Prop := if a.1 = 0 then Q (.inl (some (vI a.2.1))) M' else Q (.inr a.1) M'
def cS (ans : AS → An) (M : Mem) (Q : QT) : Prop := ∃ s, Cls M s ∧ ∀ M', CF M M' → Cls M' (ans s).2.2 → cQ (ans s) Q M'
def mS (cd : Nat → Int) (ans : AS → An) (M : Mem) (Q : Option Vl → Mem → Prop) : Prop := ∃ s, Mdl M s ∧ ∀ (M' : Mem) (r : Int), MF M M' → Mdl M' (ans s).2.2 → M' 159 0 = cd (ans s).1 → ((ans s).1 = 0 → r = (ans s).2.1) → Q (some (vI r)) M'
/-- what the reference's 'thrown' is: where one exception alone can come, and where both can -/
def cd1 (e : Nat) : Int := if e = 0 then 0 else 1
def cd2 (e : Nat) : Int := (e : Int)
/-! the answers -/
def byt (x : Int) (j : Nat) : Int := x / 2 ^ (24 - 8 * j) % 256
def sel5 (a b c d e : Int) (k : Nat) : Int := if k < 4 then a else if k < 8 then b else if k < 12 then c else if k < 16 then d else e
def fdA (Ac : Mem) (a b c d e : Int) : Mem := fun u v =>
  if u = 18 then (if (Ac 10 8).toNat ≤ v ∧ v < (Ac 10 8).toNat + 20 then byt (sel5 a b c d e (v - (Ac 10 8).toNat)) ((v - (Ac 10 8).toNat) % 4) else Ac u v) else if u = 10 ∧ v = 8 then Ac 10 8 + 20 else Ac u v
def an_feed (a b c d e : Int) (s : AS) : An := if 600 < s.2.1 10 8 + 20 then yea s (-1) else (0, s.2.1 10 8 + 20, (s.1, fdA s.2.1 a b c d e, s.2.2))
noncomputable def hlR (s : AS) (n : Int) : Mem × Tp := prS (fun i => s.2.1 18 i) n.toNat 61 (Ab0, (0, 0, 0, -1))
noncomputable def llR (s : AS) (n : Int) : Mem × Tp := llS (fun i => s.2.1 18 i) n.toNat 21 (up s.1 10 5 0, (0, 0, 0, -1))
def tpA (Ac : Mem) (fp : Int) : Mem := up (up Ac 10 8 0) 10 9 fp
noncomputable def an_hall (n : Int) (s : AS) : An := if ¬ (0 ≤ n ∧ n ≤ s.2.1 10 8) then nay s 2 else if ¬ (hlR s n).2.2.2.1 = 0 then (0, f_sub (hlR s n).2.2.2.1 10, (s.1, tpA s.2.1 (hlR s n).2.2.2.2, s.2.2)) else (0, (hlR s n).1 10 1, (up (up (hlR s n).1 10 5 0) 10 6 0, up (tpA s.2.1 (-1)) 10 7 0, s.2.2))
noncomputable def an_lend (n : Int) (s : AS) : An := if ¬ (0 ≤ n ∧ n ≤ s.2.1 10 8 ∧ n ≤ 300) then nay s 2 else if ¬ (llR s n).2.2.2.1 = 0 then (0, f_sub (llR s n).2.2.2.1 10, (s.1, tpA s.2.1 (llR s n).2.2.2.2, s.2.2)) else (0, (llR s n).1 10 5, ((llR s n).1, tpA s.2.1 (-1), s.2.2))
def an_fault (s : AS) : An := yea s (s.2.1 10 9)
def an_told (w : Int) (s : AS) : An := if ¬ (0 ≤ w ∧ w ≤ 5) then nay s 2 else yea s (if w < 4 then s.1 10 (w.toNat + 1) else if w = 4 then s.1 10 5 else s.1 10 0)
def an_person (p w : Int) (s : AS) : An := if ¬ (0 ≤ p ∧ p < s.1 10 1) then nay s 1 else if ¬ (0 ≤ w ∧ w ≤ 2) then nay s 2 else yea s (if w = 0 then s.1 4 p.toNat else if w = 1 then s.1 5 p.toNat else ownP s.1 p)
def an_thing (t w : Int) (s : AS) : An := if ¬ (0 ≤ t ∧ t < s.1 10 2) then nay s 1 else if ¬ (0 ≤ w ∧ w ≤ 3) then nay s 2 else yea s (if w < 3 then s.1 w.toNat t.toNat else thC s.1 (-1) t.toNat)
noncomputable def an_holds (t m : Int) (s : AS) : An := if ¬ (0 ≤ t ∧ t < s.1 10 2) then nay s 1 else if ¬ (0 ≤ m ∧ m < 120) then nay s 2 else yea s (run s.1 (-1) (m.toNat + 1) 0 t.toNat)
noncomputable def an_pounds (p m w : Int) (s : AS) : An := if ¬ (0 ≤ p ∧ p < s.1 10 1) then nay s 1 else if ¬ ((0 ≤ m ∧ m < 120) ∧ (w = 0 ∨ w = 1)) then nay s 2 else yea s (if w = 0 then ldF s.1 (run s.1 (-1) (m.toNat + 1)) p else run s.1 (-1) (m.toNat + 1) 2 p.toNat)
noncomputable def an_spent (p : Int) (s : AS) : An := if ¬ (0 ≤ p ∧ p < s.1 10 1) then nay s 1 else yea s (run s.1 (-1) 120 3 p.toNat)
/-- whether a motion passes by a law, without a thing -/
noncomputable def psB (Ab : Mem) (wo law : Int) (k : Nat) : Bool := decide (cntF Ab (fun p => ldF Ab (run Ab wo ((Ab 7 k).toNat + 1)) (p : Int)) (Ab 9 k) law < cntF Ab (fun p => ldF Ab (run Ab wo ((Ab 7 k).toNat + 1)) (p : Int)) (Ab 8 k) law)
noncomputable def psN (Ab : Mem) (wo law : Int) : Nat := pbN (psB Ab wo law) (nM Ab)
noncomputable def an_motion (k law w : Int) (s : AS) : An := if ¬ (0 ≤ k ∧ k < s.1 10 4) then nay s 1 else if ¬ ((0 ≤ law ∧ law < 3) ∧ (0 ≤ w ∧ w ≤ 2)) then nay s 2 else yea s (if w = 2 then (if psB s.1 (-1) law k.toNat = true then 1 else 0) else cnM s.1 k.toNat law w.toNat)
noncomputable def an_passes (law : Int) (s : AS) : An := if ¬ (0 ≤ law ∧ law < 3) then nay s 2 else yea s ((psN s.1 (-1) law : Nat) : Int)
noncomputable def an_unlike (law ot : Int) (s : AS) : An := if ¬ ((0 ≤ law ∧ law < 3) ∧ (0 ≤ ot ∧ ot < 3)) then nay s 2 else yea s ((popc (psN s.1 (-1) law ^^^ psN s.1 (-1) ot) : Nat) : Int)
def isW (h : Int) : Int := if h = -1 then 0 else if h = -2 then 2 else 1
noncomputable def an_sums (m w : Int) (s : AS) : An := if ¬ ((0 ≤ m ∧ m < 120) ∧ (0 ≤ w ∧ w ≤ 2)) then nay s 2 else yea s (sumN (fun t => if isW (run s.1 (-1) (m.toNat + 1) 0 t) = w then s.1 1 t else 0) (nT s.1))
noncomputable def an_least (k w : Int) (s : AS) : An := if ¬ (0 ≤ k ∧ k < s.1 10 4) then nay s 1 else if ¬ (w = 0 ∨ w = 1) then nay s 2 else yea s (if w = 0 then lpF s.1 k.toNat (cnM s.1 k.toNat 0 1) else lsF s.1 k.toNat (cnM s.1 k.toNat 0 1))
noncomputable def an_decides (t : Int) (s : AS) : An := if ¬ (0 ≤ t ∧ t < s.1 10 2) then nay s 1 else yea s ((psN s.1 t (s.1 10 0) ^^^ psN s.1 (-1) (s.1 10 0) : Nat) : Int)
def an_power (p : Int) (s : AS) : An := if ¬ (0 ≤ p ∧ p < s.1 10 1) then nay s 1 else yea s (swF s.1 p.toNat)
def an_powers (s : AS) : An := yea s (sumN (swF s.1) (nP s.1))
def an_wins (x : Int) (s : AS) : An := if ¬ (0 ≤ x ∧ x < 16) then nay s 2 else yea s (if winB s.1 x.toNat = true then 1 else 0)
def owV (Ab : Mem) (q pot : Int) : Int := pot * otF Ab q.toNat
def an_owed (q pot w : Int) (s : AS) : An := if ¬ ((0 ≤ q ∧ q < 4) ∧ (0 ≤ pot ∧ pot ≤ 9999) ∧ (w = 0 ∨ w = 1)) then nay s 2 else yea s ((if w = 0 then owV s.1 q pot else 24) / eu 64 (owV s.1 q pot) 24)
noncomputable def tgF (Ab : Mem) (i : Int) : Nat → Int → Int
  | 0, _ => -1
  | n + 1, f => if tf (htB Ab (15 - n)) = true then (if f = i then ((15 - n : Nat) : Int) else tgF Ab i n (f + 1)) else tgF Ab i n f
noncomputable def an_together (i : Int) (s : AS) : An := yea s (tgF s.1 i 16 0)
noncomputable def brF (Ab : Mem) (d mi : Int) : Int := Classical.epsilon (fun v => BrV Ab d mi v)
theorem brF_eq {Ab : Mem} {d mi v : Int} (ho : HallOK Ab) (h : BrV Ab d mi v) : v = brF Ab d mi := BrV_uni ho h (Classical.epsilon_spec (p := fun v => BrV Ab d mi v) ⟨v, h⟩)
noncomputable def an_bring (d mi : Int) (s : AS) : An := if ¬ (0 ≤ d ∧ d < s.1 10 3) then nay s 1 else if ¬ (0 ≤ mi ∧ mi ≤ 999) then nay s 2 else yea s (brF s.1 d mi)
def voA (Ab : Mem) (f g more : Int) : Mem := up (up (up (up Ab 15 (nV Ab) f) 16 (nV Ab) g) 17 (nV Ab) more) 10 6 (Ab 10 6 + 1)
def voC (Ab : Mem) (f g more : Int) : Prop := ((0 ≤ f ∧ f ≤ allB Ab) ∧ (0 ≤ g ∧ g ≤ allB Ab)) ∧ andI f g = 0 ∧ (-9999 ≤ more ∧ more ≤ 9999)
noncomputable def an_vote (f g more : Int) (s : AS) : An := if ¬ tf (voC s.1 f g more) = true then nay s 2 else if s.1 10 6 = 9 then yea s (-1) else (0, s.1 10 6 + 1, (voA s.1 f g more, s.2.1, s.2.2))
def an_forget (s : AS) : An := (0, s.1 10 6, (up s.1 10 6 0, s.2.1, s.2.2))
def an_hollow (w : Int) (s : AS) : An := if ¬ (0 ≤ w ∧ w ≤ 4) then nay s 2 else yea s (if w = 0 then hN s.1 (2 ^ nT s.1) else if hN s.1 (2 ^ nT s.1) = 0 then (if w ≤ 2 then 0 else -1) else if w = 1 then ((hA s.1 (2 ^ nT s.1) : Nat) : Int) else if w = 2 then andI (((2 ^ nT s.1 : Nat) : Int) - 1) (xorI ((hY s.1 (2 ^ nT s.1) : Nat) : Int) (-1)) else if w = 3 then ((popc (hB s.1 (2 ^ nT s.1)).toNat : Nat) : Int) else hB s.1 (2 ^ nT s.1))
/-- whether a motion passes behind a speech -/
noncomputable def spR (Ab : Mem) (k : Nat) (l : Int) : Mem := runT Ab (-1) (fun n => tmF (Ab 7 k) l (n : Int)) ((Ab 7 k + l).toNat + 1)
noncomputable def spB (Ab : Mem) (k : Nat) (l : Int) : Bool := decide (cntF Ab (fun p => ldF Ab (spR Ab k l) (p : Int)) (Ab 9 k) (Ab 10 0) < cntF Ab (fun p => ldF Ab (spR Ab k l) (p : Int)) (Ab 8 k) (Ab 10 0))
noncomputable def tiF (Ab : Mem) (k : Nat) : Nat → Int
  | 0 => -1
  | n + 1 => if spB Ab k ((60 - n : Nat) : Int) = spB Ab k 0 then tiF Ab k n else ((60 - n : Nat) : Int)
noncomputable def an_tired (k : Int) (s : AS) : An := if ¬ (0 ≤ k ∧ k < s.1 10 4) then nay s 1 else yea s (tiF s.1 k.toNat 60)
noncomputable def an_speech (k l : Int) (s : AS) : An := if ¬ (0 ≤ k ∧ k < s.1 10 4) then nay s 1 else if ¬ (1 ≤ l ∧ l ≤ 60) then nay s 2 else yea s (if spB s.1 k.toNat l = true then 1 else 0)
def an_image (s : AS) : An := if 3 ≤ s.2.1 10 7 then yea s (-1) else (0, s.2.1 10 7 + 1, (s.1, up s.2.1 10 7 (s.2.1 10 7 + 1), fun i => if i = nI3 s then s.1 else s.2.2 i))
def an_restore (s : AS) : An := if s.2.1 10 7 ≤ 0 then yea s (-1) else (0, s.2.1 10 7 - 1, (s.2.2 (nI3 s - 1), up s.2.1 10 7 (s.2.1 10 7 - 1), s.2.2))
def an_status (w : Int) (s : AS) : An := yea s (if w = 0 then s.2.1 10 10 else if w = 1 then s.2.1 10 11 else -1)
def an_count (w : Int) (s : AS) : An := yea s (if w = 0 then s.1 10 6 else if w = 1 then s.2.1 10 7 else if w = 2 then s.2.1 10 8 else -1)
