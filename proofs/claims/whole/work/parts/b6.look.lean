theorem lk_two {pc d0 d1 dd : Nat} {o0 o1 od : Int} (h0 : (pc : Int) + o0 = (d0 : Int)) (h1 : (pc : Int) + o1 = (d1 : Int)) (hd : (pc : Int) + od = (dd : Int)) : ∀ x : Int, ∀ t : Nat, ((([(0, d0), (1, d1)] : List (Int × Nat)).find? (fun q => q.1 == x)).map Prod.snd).getD dd = t → (pc : Int) + Op.lookupswitch.offset (#[(0, o0), (1, o1)] : Array (Int × Int)).toList od x = (t : Int) := by
  intro x t h
  subst h
  by_cases q0 : x = 0
  · subst q0
    simpa [Op.lookupswitch.offset] using h0
  · by_cases q1 : x = 1
    · subst q1
      simpa [Op.lookupswitch.offset] using h1
    · have e0 : ((0 : Int) == x) = false := by simpa using fun z : (0 : Int) = x => q0 z.symm
      have e1 : ((1 : Int) == x) = false := by simpa using fun z : (1 : Int) = x => q1 z.symm
      have f0 : ¬ (0 : Int) = x := fun z => q0 z.symm
      have f1 : ¬ (1 : Int) = x := fun z => q1 z.symm
      simpa [Op.lookupswitch.offset, List.find?, e0, e1, f0, f1] using hd
theorem lk_X10_person_31 : ∀ x : Int, ∀ t : Nat, ((([(0, 56), (1, 66)] : List (Int × Nat)).find? (fun q => q.1 == x)).map Prod.snd).getD 76 = t → ((31 : Nat) : Int) + Op.lookupswitch.offset (#[(0, 25), (1, 35)] : Array (Int × Int)).toList 45 x = (t : Int) := lk_two rfl rfl rfl
theorem lk_X10_sums_26 : ∀ x : Int, ∀ t : Nat, ((([(0, 52), (1, 62)] : List (Int × Nat)).find? (fun q => q.1 == x)).map Prod.snd).getD 91 = t → ((26 : Nat) : Int) + Op.lookupswitch.offset (#[(0, 26), (1, 36)] : Array (Int × Int)).toList 65 x = (t : Int) := lk_two rfl rfl rfl
