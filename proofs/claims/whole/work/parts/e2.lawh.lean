--BLTRUE
/-! the law's loop at the machine -/
def stgL : List (Nat × Nat) := [(253, 261), (309, 317), (378, 386), (434, 448), (502, 516), (570, 584), (638, 658), (718, 726), (774, 794), (854, 862), (910, 924), (978, 992), (1046, 1060), (1114, 1122), (1170, 1178), (1239, 1247), (1302, 1322), (1407, 1421), (1475, 1495), (1568, 1576), (1624, 1632), (1680, 1694)]
def stgF : List (Nat × Nat) → Nat → Nat
  | [], _ => 1
  | (a, b) :: L, pc => match Nat.ble a pc && Nat.ble pc b with
    | true => 0
    | false => stgF L pc
def stg (pc : Nat) : Nat := stgF stgL pc
def gk (k pc : Nat) : Nat := 337 + 2 * k + 2 * stg pc
def gks (k pc : Nat) : Nat := 14651 + 12 * k + 12 * stg pc
def gh (k : Nat) (_ : Nat) : Nat := 337 + 2 * k
def ghs (k : Nat) (_ : Nat) : Nat := 14651 + 12 * k
theorem stgF_le (pc : Nat) : ∀ L : List (Nat × Nat), stgF L pc ≤ 1
  | [] => Nat.le_refl _
  | (a, b) :: L => by
    rw [stgF]
    split
    · exact Nat.zero_le _
    · exact stgF_le pc L
theorem stg_le (pc : Nat) : stg pc ≤ 1 := stgF_le pc stgL
theorem hgl {k a b : Nat} (h : Nat.ble (stg a) (stg b) = true) : gk k a ≤ gk k b ∧ gks k a ≤ gks k b := by
  have := Nat.le_of_ble_eq_true h
  unfold gk gks
  omega
theorem hgc0 {k a b : Nat} (h : Nat.ble (stg a) (stg b) = true) : gk k a + 0 ≤ gk k b ∧ gks k a + 6 * 0 ≤ gks k b := hgl h
theorem hgc {k a b mc : Nat} (h0 : stg a = 0) (h1 : stg b = 1) (hm : Nat.ble mc 2 = true) : gk k a + mc ≤ gk k b ∧ gks k a + 6 * mc ≤ gks k b := by
  have := Nat.le_of_ble_eq_true hm
  unfold gk gks
  rw [h0, h1]
  omega
theorem hfl {k a mc : Nat} (hk : k < 600) (hm : Nat.ble mc 2 = true) : gk k a + mc ≤ 601024 ∧ gks k a + 6 * mc ≤ 7293033 := by
  have := Nat.le_of_ble_eq_true hm
  have := stg_le a
  unfold gk gks
  omega
theorem hfr {k a : Nat} (hk : k < 600) : gk k a ≤ 601024 ∧ gks k a ≤ 7293033 := hfl (mc := 0) hk rfl
theorem hrr : (Nat.le 0 0) ∧ Nat.le 0 0 := ⟨Nat.le_refl _, Nat.le_refl _⟩
theorem JW_le {p : Program} {l : Launch} {e : Env} {R : Room} {s : State} {m : MethodId} {args : Array Value} {below : List Frame} {meth : Method} {c : Code} {nL : Nat} {D : va_G} {ca : Nat → ClassId} {ad : Nat → Nat} {A : Nat → Prop} {Qf : State → Prop} {gc gs gc' gs' : Nat → Nat} {bl : Bool} {pc : Nat} {ls : Ls} {st : St} {M : Mem} (h1 : gc pc ≤ gc' pc ∧ gs pc ≤ gs' pc) (h : JW p l e R s m args below meth c nL D ca ad A Qf gc' gs' bl pc ls st M) : JW p l e R s m args below meth c nL D ca ad A Qf gc gs bl pc ls st M :=
  fun H locs lsA a b c d e f g i => W.widen h1.1 h1.2 (h H locs lsA a b c d e f g i)
theorem gh_le {k pc : Nat} : gh k pc ≤ gk k pc ∧ ghs k pc ≤ gks k pc := by
  unfold gh ghs gk gks
  omega
abbrev LJ (p : Program) (l : Launch) (e : Env) (s : State) (m : MethodId) (args : Array Value) (below : List Frame) (meth : Method) (c : Code) (D : va_G) (ca : Nat → ClassId) (ad : Nat → Nat) (A : Nat → Prop) (Q : QT) (k : Nat) : JT := JW p l e room_1 s m args below meth c 7 D ca ad A (vx_MQ below (Qn D ca ad A Q) (Qx D ca ad A Q) args s 601024 7293033 A) (gk k) (gks k) true
abbrev LH (p : Program) (l : Launch) (e : Env) (s : State) (m : MethodId) (args : Array Value) (below : List Frame) (meth : Method) (c : Code) (D : va_G) (ca : Nat → ClassId) (ad : Nat → Nat) (A : Nat → Prop) (Q : QT) (k : Nat) : JT := JW p l e room_1 s m args below meth c 7 D ca ad A (vx_MQ below (Qn D ca ad A Q) (Qx D ca ad A Q) args s 601024 7293033 A) (gh k) (ghs k) true
