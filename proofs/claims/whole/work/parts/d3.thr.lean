--BLTRUE
section Thr
variable {p : Program} {l : Launch} {e : Env} {R : Room} {s : State} {m : MethodId} {args : Array Value} {below : List Frame} {meth : Method} {c : Code} {cc : ByteArray} {nL : Nat} {own : String} {D : va_G} {ca : Nat → ClassId} {ad : Nat → Nat} {A : Nat → Prop} {Qf : State → Prop} {gc gs : Nat → Nat} {bl : Bool}
variable {J : JT} {Q : QT} {k : Kt} {pc nx : Nat}
variable {sx sy : Nat → Nat} {mc ms : Nat}
/-- an exception of the class's own, thrown -/
def tx_thr (E : Nat) : AT := fun _ Q _ _ st M => match Nat.ble (cats st) 8 with
  | true => Q (.inr E) M
  | false => False
theorem s_thr (C0 : CX p s m args meth c cc nL own D ca ad A) (hE : EX sx sy A s s.heap) (hl0 : l.stackTraces = false) {E ik is ic si : Nat} {text : String} {names : List String} (hE12 : E = 1 ∨ E = 2) (hcls : Bundle.fit (enm E) = true) (hnames : ∀ n ∈ names, Bundle.fit n = true)
    (hk0 : Cond.classLink own ik (enm E) ∈ GT) (hini : Cond.initialized (enm E) ∈ GT) (hsr : SRl[si]? = some (own, is, text)) (hat : ∀ w ∈ vx_atS own ic (enm E) names, w ∈ GT) (hgood : ∀ w ∈ Cond.classLink own ik (enm E) :: Cond.initialized (enm E) :: vx_atS own ic (enm E) names, vx_ot w = true)
    (d0 : decode cc pc = .ok (.new ik, 3)) (d3 : decode cc (pc + 3) = .ok (.dup, 1)) (d4 : decode cc (pc + 4) = .ok (.ldc_w is, 3)) (d7 : decode cc (pc + 7) = .ok (.invokespecial ic, 3)) (d10 : decode cc (pc + 10) = .ok (.athrow, 1))
    (hno : ∀ x ∈ c.exceptionTable.toList, False) (hRf : names.length + 3 < R.frames) (hRl : 8 + (13 * (names.length + 1) + 43) ≤ R.locals) (hRc : gc pc + 1 ≤ R.cells) (hRs : gs pc + 6 ≤ R.slots) (hmc : gc pc + 1 ≤ mc) (hms : gs pc + 6 ≤ ms) :
    ∀ ls st M, tx_thr E J Q k ls st M → JW p l e R s m args below meth c nL D ca ad A (vx_MQ below (Qn D ca ad A Q) (Qx D ca ad A Q) args s mc ms A) gc gs true pc ls st M := by
  intro ls st M h H locs lsA hR hc hz hP hS ho hol hl
  unfold tx_thr at h
  split at h
  · rename_i hcat
    have cl := cats_le (m := m) (pc := pc) (ad := ad) hcat
    refine vx_throwSW C0.1 C0.2.1 hl0 C0.2.2.2.1 hcls hnames (C0.2.2.2.2.1 _ hk0) (C0.2.2.2.2.1 _ hini) (hE.2.2.2.2 si _ hsr) (fun w hw => C0.2.2.2.2.1 _ (hat w hw)) hgood hE.1 hE.2.1 hS (hl.1.trans C0.2.2.1.symm) d0 d3 d4 d7 d10 (fun x hx => (hno x hx).elim) hRf (by omega) hRc hRs C0.2.2.2.2.2.2.2.2.2.2 ?_ hS.2.2 hmc hms
    intro t _ hsz ht
    exact ⟨⟨E, M, rfl, hE12, h, hR, hP.kept (fun k q hk => ht q.1 (hP k q hk).lt)⟩, Nat.le_trans hS.1 hsz, fun q h1 h2 => (ht q (Nat.lt_of_lt_of_le h1 hS.1)).trans (hS.2.1 q h1 h2)⟩
  · exact h.elim
end Thr
def exUp : List String := ["java/lang/RuntimeException", "java/lang/Exception"]
theorem ex_fit : (∀ n ∈ exUp, Bundle.fit n = true) ∧ Bundle.fit (enm 1) = true ∧ Bundle.fit (enm 2) = true := by decide +kernel
theorem ex_good1 : ∀ w ∈ Cond.classLink RX10 341 (enm 1) :: Cond.initialized (enm 1) :: vx_atS RX10 345 (enm 1) exUp, vx_ot w = true := by decide +kernel
theorem ex_good2 : ∀ w ∈ Cond.classLink RX10 348 (enm 2) :: Cond.initialized (enm 2) :: vx_atS RX10 352 (enm 2) exUp, vx_ot w = true := by decide +kernel
