/-! arrays over arrays: what the tables say of them stands in every state with like tables -/
theorem arrayOver_alikeB {args args' : Array Value} {s U first first' : State} {o o' : Option Outcome} {idx idx' : List Nat} {t : FieldType} (hal : s.vm.Alike U.vm) (h : (Cond.arrayOver (.array t)).holds args first o s idx = true) : (Cond.arrayOver (.array t)).holds args' first' o' U idx' = true := by
  simp only [Cond.holds, Cond.value, beq_iff_eq] at h ⊢
  rw [hal.findClass, hal.findClass]
  cases hq : s.vm.findClass (FieldType.array t).toString with
  | none => rw [hq] at h; simp at h
  | some w =>
    rw [hq] at h
    simp only [Option.bind_some, Option.bind_eq_some_iff, Option.map_eq_some_iff] at h ⊢
    obtain ⟨d, h1, z, h2, h3⟩ := h
    obtain ⟨z', h4, h5⟩ := hal.2.2 _ _ h2
    exact ⟨d, (hal.findIdx?_eqK _ (fun _ => rfl)).trans h1, z', h4, by rw [h5]; exact h3⟩
