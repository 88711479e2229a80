/-! both worlds together: finish, flush -/
section CASI
variable {S T U S8 : cS} {v v' : Nat → Int32} {f f' : Nat → Nat → Int32} {g g' : Nat → Nat → Int64} {dp x out k cd dd L : Nat} {x4 : Int32} {xs : Nat → Int32} {R : Int32 → Nat → Nat → cS → (Nat → Int32) → (Nat → Nat → Int32) → (Nat → Nat → Int64) → Prop}
theorem cc_map {cc : Option Nat} {q : Nat} (h : ∀ j, cc = some j → j ≤ 1000) : ∀ j, cc.map (fun k => k - q) = some j → j ≤ 1000 := fun j e => by
  cases cc with
  | none => exact absurd e (by simp)
  | some c =>
    have := h c rfl
    have e2 : c - q = j := Option.some.inj e
    omega
end CASI
