/-! the machine's instructions as transformers: what must hold ahead of an instruction so that 'k' (the next one), a jump, or the end 'Q' holds behind it -/
def OB (a c : Nat) : Prop := (SH a).1 = 0 ∧ (SH a).2.1 = c
def AK (kd a : Nat) (i : Int) : Prop := (SH a).1 = kd ∧ 0 ≤ i ∧ i < ((SH a).2.1 : Int)
def cats : St → Nat
  | [] => 0
  | v :: st => catv v + cats st
def popn : Nat → St → List Vl → Option (List Vl × St)
  | 0, st, acc => some (acc, st)
  | _ + 1, [], _ => none
  | n + 1, v :: st, acc => popn n st (v :: acc)
def wpl (J : JT) (Q : QT) : List AT → Kt
  | [] => fun _ _ _ => False
  | t :: ts => t J Q (wpl J Q ts)
def tx_fall (tgt : Nat) : AT := fun J _ _ ls st M => J tgt ls st M
def tx_ic (n : Int) : AT := fun _ _ k ls st M => k ls (.inl n :: st) M
def tx_lc (n : Int) : AT := fun _ _ k ls st M => k ls (.inr (.inr (.inl n)) :: st) M
def tx_oc (a : Nat) : AT := fun _ _ k ls st M => k ls (.inr (.inr (.inr a)) :: st) M
def tx_il (i : Nat) : AT := fun _ _ k ls st M => match nth ls i with
  | some (some (.inl x)) => k ls (.inl x :: st) M
  | _ => False
def tx_ll (i : Nat) : AT := fun _ _ k ls st M => match nth ls i with
  | some (some (.inr (.inr (.inl x)))) => k ls (.inr (.inr (.inl x)) :: st) M
  | _ => False
def tx_al (i : Nat) : AT := fun _ _ k ls st M => match nth ls i with
  | some (some (.inr (.inl a))) => k ls (.inr (.inl a) :: st) M
  | some (some (.inr (.inr (.inr a)))) => k ls (.inr (.inr (.inr a)) :: st) M
  | _ => False
def tx_is (i : Nat) : AT := fun _ _ k ls st M => match st with
  | .inl x :: st => (match half ls i || Nat.ble ls.length i with
    | false => k (setL ls i (some (.inl x))) st M
    | true => False)
  | _ => False
def tx_as (i : Nat) : AT := fun _ _ k ls st M => match st with
  | .inr (.inl a) :: st => (match half ls i || Nat.ble ls.length i with
    | false => k (setL ls i (some (.inr (.inl a)))) st M
    | true => False)
  | .inr (.inr (.inr a)) :: st => (match half ls i || Nat.ble ls.length i with
    | false => k (setL ls i (some (.inr (.inr (.inr a))))) st M
    | true => False)
  | _ => False
def tx_ls (i : Nat) : AT := fun _ _ k ls st M => match st with
  | .inr (.inr (.inl x)) :: st => (match half ls i || Nat.ble ls.length (i + 1) with
    | false => k (setL (setL ls i (some (.inr (.inr (.inl x))))) (i + 1) none) st M
    | true => False)
  | _ => False
def tx_inc (i : Nat) (n : Int) : AT := fun _ _ k ls st M => match nth ls i with
  | some (some (.inl x)) => (match half ls i || Nat.ble ls.length i with
    | false => k (setL ls i (some (.inl (w32 (x + n))))) st M
    | true => False)
  | _ => False
def tx_bin (f : Int → Int → Int) : AT := fun _ _ k ls st M => match st with
  | .inl y :: .inl x :: st => k ls (.inl (f x y) :: st) M
  | _ => False
def f_add (x y : Int) : Int := w32 (x + y)
def f_sub (x y : Int) : Int := w32 (x - y)
def f_mul (x y : Int) : Int := w32 (x * y)
def tx_div : AT := fun _ _ k ls st M => match st with
  | .inl y :: .inl x :: st => y ≠ 0 ∧ k ls (.inl (w32 (x.tdiv y)) :: st) M
  | _ => False
def tx_rem : AT := fun _ _ k ls st M => match st with
  | .inl y :: .inl x :: st => y ≠ 0 ∧ k ls (.inl (w32 (x.tmod y)) :: st) M
  | _ => False
def tx_neg : AT := fun _ _ k ls st M => match st with
  | .inl x :: st => k ls (.inl (w32 (-x)) :: st) M
  | _ => False
def tx_i2b : AT := fun _ _ k ls st M => match st with
  | .inl x :: st => k ls (.inl (w8 x) :: st) M
  | _ => False
def tx_i2l : AT := fun _ _ k ls st M => match st with
  | .inl x :: st => k ls (.inr (.inr (.inl x)) :: st) M
  | _ => False
def tx_lbin (f : Int → Int → Int) : AT := fun _ _ k ls st M => match st with
  | .inr (.inr (.inl y)) :: .inr (.inr (.inl x)) :: st => k ls (.inr (.inr (.inl (f x y))) :: st) M
  | _ => False
def f_addL (x y : Int) : Int := w64 (x + y)
def f_subL (x y : Int) : Int := w64 (x - y)
def f_mulL (x y : Int) : Int := w64 (x * y)
def tx_lcmp : AT := fun _ _ k ls st M => match st with
  | .inr (.inr (.inl y)) :: .inr (.inr (.inl x)) :: st => k ls (.inl (cmpL x y) :: st) M
  | _ => False
def tx_dup : AT := fun _ _ k ls st M => match st with
  | .inl x :: st => k ls (.inl x :: .inl x :: st) M
  | .inr (.inl x) :: st => k ls (.inr (.inl x) :: .inr (.inl x) :: st) M
  | _ => False
def tx_dup2 : AT := fun _ _ k ls st M => match st with
  | .inl x :: .inr (.inl y) :: st => k ls (.inl x :: .inr (.inl y) :: .inl x :: .inr (.inl y) :: st) M
  | _ => False
def tx_cmp (r : Int → Int → Prop) (tgt : Nat) : AT := fun J _ k ls st M => match st with
  | .inl y :: .inl x :: st => (r x y → J tgt ls st M) ∧ (¬ r x y → k ls st M)
  | _ => False
def tx_ifz (r : Int → Int → Prop) (tgt : Nat) : AT := fun J _ k ls st M => match st with
  | .inl x :: st => (r x 0 → J tgt ls st M) ∧ (¬ r x 0 → k ls st M)
  | _ => False
abbrev r_eq (x y : Int) : Prop := x = y
abbrev r_ne (x y : Int) : Prop := ¬ x = y
abbrev r_lt (x y : Int) : Prop := x < y
abbrev r_ge (x y : Int) : Prop := y ≤ x
abbrev r_gt (x y : Int) : Prop := y < x
abbrev r_le (x y : Int) : Prop := x ≤ y
def swc (J : JT) (x : Int) (ls : Ls) (st : St) (M : Mem) : List (Int × Nat) → Nat → Prop
  | [], d => J d ls st M
  | (v, t) :: cs, d => (x = v → J t ls st M) ∧ (¬ x = v → swc J x ls st M cs d)
def tx_sw (cs : List (Int × Nat)) (d : Nat) : AT := fun J _ _ ls st M => match st with
  | .inl x :: st => swc J x ls st M cs d
  | _ => False
def tx_gi (c j : Nat) : AT := fun _ _ k ls st M => match st with
  | .inr (.inl a) :: st => OB a c ∧ k ls (.inl (M a j) :: st) M
  | _ => False
def tx_gr (c off : Nat) : AT := fun _ _ k ls st M => match st with
  | .inr (.inl a) :: st => OB a c ∧ k ls (.inr (.inl (a + off)) :: st) M
  | _ => False
def tx_gm (c j : Nat) : AT := fun _ _ k ls st M => match st with
  | .inr (.inl a) :: st => OB a c ∧ k ls (.inr (.inl (M a j).toNat) :: st) M
  | _ => False
def tx_pi (c j : Nat) : AT := fun _ _ k ls st M => match st with
  | .inl v :: .inr (.inl a) :: st => OB a c ∧ k ls st (up M a j v)
  | _ => False
def tx_pz (c j : Nat) : AT := fun _ _ k ls st M => match st with
  | .inl v :: .inr (.inl a) :: st => OB a c ∧ (v = 0 ∨ v = 1) ∧ k ls st (up M a j v)
  | _ => False
def tx_pm (c j : Nat) : AT := fun _ _ k ls st M => match st with
  | .inr (.inl b) :: .inr (.inl a) :: st => OB a c ∧ b < 337 ∧ k ls st (up M a j (b : Int))
  | _ => False
def tx_ia : AT := fun _ _ k ls st M => match st with
  | .inl i :: .inr (.inl a) :: st => AK 1 a i ∧ k ls (.inl (M a i.toNat) :: st) M
  | _ => False
def tx_ba : AT := fun _ _ k ls st M => match st with
  | .inl i :: .inr (.inl a) :: st => AK 2 a i ∧ k ls (.inl (M a i.toNat) :: st) M
  | _ => False
def tx_za : AT := fun _ _ k ls st M => match st with
  | .inl i :: .inr (.inl a) :: st => AK 3 a i ∧ k ls (.inl (M a i.toNat) :: st) M
  | _ => False
def tx_la : AT := fun _ _ k ls st M => match st with
  | .inl i :: .inr (.inl a) :: st => AK 4 a i ∧ k ls (.inr (.inr (.inl (M a i.toNat))) :: st) M
  | _ => False
def tx_aa (kd : Nat) : AT := fun _ _ k ls st M => match st with
  | .inl i :: .inr (.inl a) :: st => AK kd a i ∧ k ls (.inr (.inl ((SH a).2.2.1 + (SH a).2.2.2 * i.toNat)) :: st) M
  | _ => False
def tx_iax : AT := fun _ _ k ls st M => match st with
  | .inl v :: .inl i :: .inr (.inl a) :: st => AK 1 a i ∧ k ls st (up M a i.toNat v)
  | _ => False
def tx_bax : AT := fun _ _ k ls st M => match st with
  | .inl v :: .inl i :: .inr (.inl a) :: st => AK 2 a i ∧ k ls st (up M a i.toNat (w8 v))
  | _ => False
def tx_zax : AT := fun _ _ k ls st M => match st with
  | .inl v :: .inl i :: .inr (.inl a) :: st => AK 3 a i ∧ (v = 0 ∨ v = 1) ∧ k ls st (up M a i.toNat v)
  | _ => False
def tx_lax : AT := fun _ _ k ls st M => match st with
  | .inr (.inr (.inl v)) :: .inl i :: .inr (.inl a) :: st => AK 4 a i ∧ k ls st (up M a i.toNat v)
  | _ => False
def tx_len : AT := fun _ _ k ls st M => match st with
  | .inr (.inl a) :: st => (1 ≤ (SH a).1 ∧ (SH a).1 ≤ 8) ∧ k ls (.inl ((SH a).2.1 : Int) :: st) M
  | _ => False
def tx_scr (b L : Nat) (xs : Nat → Int32) : AT := fun _ _ k ls st M => match st with
  | .inl i :: .inr (.inr (.inr a)) :: st => (a = b ∧ 0 ≤ i ∧ i < (L : Int)) ∧ k ls (.inl (xs i.toNat).toInt :: st) M
  | _ => False
def tx_scl (b L : Nat) : AT := fun _ _ k ls st M => match st with
  | .inr (.inr (.inr a)) :: st => a = b ∧ k ls (.inl (L : Int) :: st) M
  | _ => False
/-- what comes behind a call -/
def aft (Q : QT) (k : Kt) (ls : Ls) (r : St) : QT := fun o M => match o with
  | .inl none => k ls r M
  | .inl (some v) => k ls (v :: r) M
  | .inr E => Q (.inr E) M
def tx_call (F : FT) (n : Nat) : AT := fun _ Q k ls st M => match popn n st [] with
  | some (as, r) => (match Nat.ble (cats r) 8 with
    | true => F as M (aft Q k ls r)
    | false => False)
  | none => False
def afth (J : JT) (hd : Nat → Option Nat) (Q : QT) (k : Kt) (ls : Ls) (r : St) : QT := fun o M => match o with
  | .inl none => k ls r M
  | .inl (some v) => k ls (v :: r) M
  | .inr E => (match hd E with
    | some hp => ∀ a : Nat, J hp ls [.inr (.inr (.inr a))] M
    | none => Q (.inr E) M)
def tx_callh (hd : Nat → Option Nat) (F : FT) (n : Nat) : AT := fun J Q k ls st M => match popn n st [] with
  | some (as, r) => (match Nat.ble (cats r) 8 with
    | true => F as M (afth J hd Q k ls r)
    | false => False)
  | none => False
def tx_ri : AT := fun _ Q _ _ st M => match st with
  | [.inl x] => Q (.inl (some (.inl x))) M
  | _ => False
def tx_rz : AT := fun _ Q _ _ st M => match st with
  | [.inl x] => (x = 0 ∨ x = 1) ∧ Q (.inl (some (.inl x))) M
  | _ => False
def tx_rl : AT := fun _ Q _ _ st M => match st with
  | [.inr (.inr (.inl x))] => Q (.inl (some (.inr (.inr (.inl x))))) M
  | _ => False
def tx_ra : AT := fun _ Q _ _ st M => match st with
  | [.inr (.inl x)] => Q (.inl (some (.inr (.inl x)))) M
  | _ => False
def tx_rv : AT := fun _ Q _ _ st M => match st with
  | [] => Q (.inl none) M
  | _ => False
/-- System.arraycopy of ints -/
def cpy (M : Mem) (a : Nat) (sp : Nat) (b : Nat) (dp n : Nat) : Mem := fun x y => if x = b ∧ dp ≤ y ∧ y < dp + n then M a (sp + (y - dp)) else M x y
def tx_acp : AT := fun _ _ k ls st M => match st with
  | .inl n :: .inl dp :: .inr (.inl b) :: .inl sp :: .inr (.inl a) :: st => (match Nat.ble (cats st) 8 with
    | true => ((SH a).1 = 1 ∧ (SH b).1 = 1 ∧ a ≠ b ∧ 0 ≤ n ∧ 0 ≤ sp ∧ 0 ≤ dp ∧ sp + n ≤ ((SH a).2.1 : Int) ∧ dp + n ≤ ((SH b).2.1 : Int)) ∧ k ls st (cpy M a sp.toNat b dp.toNat n.toNat)
    | false => False)
  | _ => False
/-- a call on a receiver of a known class -/
def tx_callv (c0 : Nat) (F : FT) (n : Nat) : AT := fun _ Q k ls st M => match popn (n + 1) st [] with
  | some (.inr (.inl a) :: as, r) => (match Nat.ble (cats r) 8 with
    | true => OB a c0 ∧ F (.inr (.inl a) :: as) M (aft Q k ls r)
    | false => False)
  | _ => False
def tx_callvh (hd : Nat → Option Nat) (c0 : Nat) (F : FT) (n : Nat) : AT := fun J Q k ls st M => match popn (n + 1) st [] with
  | some (.inr (.inl a) :: as, r) => (match Nat.ble (cats r) 8 with
    | true => OB a c0 ∧ F (.inr (.inl a) :: as) M (afth J hd Q k ls r)
    | false => False)
  | _ => False
