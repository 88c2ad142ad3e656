--BLTRUE
theorem vx_ofWF {l : Launch} {y : MethodName} {ws ws' : List Cond} {rm : Room} {Pc : Array Value → State → Prop} {Qc : Array Value → State → Outcome → State → Prop} {XC : String → State → State → Prop} {mc ms : Nat} {free : Addr → Prop} {cc : ByteArray} {maxL : Nat} {ret : Option FieldType}
    (hy : plainFor y = true) (hw : ws = Cond.code y cc maxL ret :: ws')
    (body : ∀ p e s m args below meth c s₁, BodyLoose p l y (headSpec ws rm) cc maxL ret e s m args below meth c s₁ → c.maxLocals = maxL → (∀ x ∈ c.exceptionTable.toList, False) → Pc args s →
      W p l e (headSpec ws rm).room s m args below meth c s.heap [] 0 0 (vx_MQ below Qc XC args s mc ms free) (entryFrame m args maxL)) : vx_Met l y ws rm Pc Qc XC mc ms free := by
  refine MetFree.of_bodySF (code := cc) (maxLocals := maxL) (ret := ret) hy ?_ ?_
  · intro args s m h hn
    obtain ⟨meth, c, h1, h2, h3, h4, h5, h6, -, -⟩ := Cond.code_spec hn (atoms_spec (ws := ws) h _ (by rw [hw]; exact List.mem_cons_self))
    exact ⟨meth, c, h1, h2, h3, h4, h5, h6⟩
  · intro p e s m args below meth c s₁ B hml hP _
    have hh0 : s₁.heap = s.heap := by rw [B.state]; rfl
    have ht : ∀ x ∈ c.exceptionTable.toList, False := by
      obtain ⟨meth9, c9, h1, h2, -, -, -, -, h7, -⟩ := Cond.code_spec B.named (atoms_spec (ws := ws) B.pre _ (by rw [hw]; exact List.mem_cons_self))
      cases Option.some.inj (h1.symm.trans B.method)
      cases Option.some.inj (h2.symm.trans (Stand.of_body B).code)
      intro x hx
      rw [Array.isEmpty_iff.mp h7] at hx
      cases hx
    obtain ⟨t, a1, o, b1, b2, b3⟩ := body p e s m args below meth c s₁ B hml ht hP s₁ hh0 (Stand.of_body B)
    exact ⟨t, o, a1, b1, b2, b3⟩
theorem ctr_ofF {l : Launch} {y : MethodName} {b : ByteArray} {nl fr lc mc1 : Nat} {ret : Option FieldType} {F : (Nat → Nat) → FT} (hy : plainFor y = true) (gc gs : Nat → Nat) (h0 : gc 0 = 0 ∧ gs 0 = 0)
    (body : ∀ (p : Program) (e : Env) (s : State) (m : MethodId) (args : Array Value) (below : List Frame) (meth : Method) (c : Code) (D : va_G) (ca : Nat → ClassId) (ad sx sy : Nat → Nat) (A : Nat → Prop) (Q : QT) (as : List Vl) (M : Mem), CX p s m args meth c b nl y.cls D ca ad A → EX sx sy A s s.heap → meth.sig.returnType = ret → (∀ x ∈ c.exceptionTable.toList, False) → F sx as M Q →
      (enL as).length ≤ nl ∧ JW p l e { frames := fr, cells := mc1, slots := 6 * mc1, locals := lc } s m args below meth c nl D ca ad A (vx_MQ below (Qn D ca ad A Q) (Qx D ca ad A Q) args s mc1 (6 * mc1) A) gc gs true 0 (padL nl (enL as)) [] M) : Ctr l y b nl ret fr lc mc1 F := by
  intro D ca ad sx sy A sz as M post hinj hA hsz hR hoa hF
  refine vx_ofWF (cc := b) (maxL := nl) (ret := ret) hy rfl ?_
  intro p e s m args below meth c s₁ B hml hno hv
  obtain ⟨rfl, hz, hP, ⟨hK, hN⟩, hE⟩ := hv
  have hts := atoms_spec (ws := Cond.code y b nl ret :: GT) B.pre
  have C0 : CX p s m ((as.map (vv ad)).toArray) meth c b nl y.cls D ca ad A := ⟨B.exec, B.bytes, hml, findClass_of_methodNamed B.named, fun w hw => hts w (List.mem_cons_of_mem _ hw), hN, hK, hinj, hA, fun q hq => hsz q (by omega), B.notSynchronized⟩
  obtain ⟨hlen, hJ⟩ := body p e s m _ below meth c D ca ad sx sy A post as M C0 hE B.returns hno hF
  rw [lg_entry_eq]
  have := hJ s.heap [] _ hR (Nat.le_refl _) (fun q => nomatch q) hP va_S.rf (fun v hv => by cases hv) (pad_ok (enL_ok hoa)) (entry_lvA hlen)
  rw [h0.1, h0.2] at this
  exact this
