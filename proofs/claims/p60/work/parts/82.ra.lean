/-! the reference's leaves, out of their predicates -/
abbrev QI : Type := Int32 → (Nat → Int32) → (Nat → Nat → Int32) → (Nat → Nat → Int64) → Prop
abbrev QL : Type := Int64 → (Nat → Int32) → (Nat → Nat → Int32) → (Nat → Nat → Int64) → Prop
abbrev QV : Type := (Nat → Int32) → (Nat → Nat → Int32) → (Nat → Nat → Int64) → Prop
