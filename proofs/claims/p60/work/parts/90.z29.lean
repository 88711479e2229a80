/-! the law's cases as predicates over both worlds -/
def lw_tail (R : Int32 → Nat → Nat → cS → (Nat → Int32) → (Nat → Nat → Int32) → (Nat → Nat → Int64) → Prop) (x4 : Int32) (cd dd : Nat) (S : cS) (v : Nat → Int32) (f : Nat → Nat → Int32) (g : Nat → Nat → Int64) : Prop := ∀ y : Int32, y = x4 + nI 6 → R y cd dd S v f g
