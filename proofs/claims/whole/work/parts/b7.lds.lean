--BLTRUE
section Strs
variable {p : Program} {l : Launch} {e : Env} {R : Room} {s : State} {m : MethodId} {args : Array Value} {below : List Frame} {meth : Method} {c : Code} {cc : ByteArray} {nL : Nat} {own : String} {D : va_G} {ca : Nat → ClassId} {ad : Nat → Nat} {A : Nat → Prop} {Qf : State → Prop} {gc gs : Nat → Nat} {bl : Bool}
variable {J : JT} {Q : QT} {k : Kt} {pc nx : Nat}
variable {sx sy : Nat → Nat}
theorem s_lds (C0 : CX p s m args meth c cc nL own D ca ad A) (hE : EX sx sy A s s.heap) {i idx : Nat} {tx : String} (hsr : SRl[i]? = some (own, idx, tx)) (hd : decode cc pc = .ok (.ldc idx, 2)) (hg : gc pc ≤ gc (pc + 2) ∧ gs pc ≤ gs (pc + 2)) (hk : ∀ ls st M, k ls st M → JW p l e R s m args below meth c nL D ca ad A Qf gc gs true (pc + 2) ls st M) : ∀ ls st M, tx_oc (sx i) J Q k ls st M → JW p l e R s m args below meth c nL D ca ad A Qf gc gs true pc ls st M := by
  intro ls st M h H locs lsA hR hc hz hP hS ho hol hl
  exact va_ldcS C0.1 C0.2.1 C0.2.2.2.1 (hE.2.2.2.2.1 i _ hsr) hd (W.widen hg.1 hg.2 (hk _ _ _ h H locs lsA hR hc hz hP hS (okc (v := .inr (.inr (.inr (sx i)))) trivial ho) hol hl))
end Strs
