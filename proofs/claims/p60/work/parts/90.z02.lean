/-! the reference: postings are packed -/
/-- packed bits, in the row of bytes -/
def pkR (v : Nat → Int32) (f : Nat → Nat → Int32) (l : List Bool) : Prop := v 58 = nI l.length ∧ ∀ k, k < (l.length + 7) / 8 → f 37 k = nI (byV l k)
/-- numbers in the plain row -/
def plR (f : Nat → Nat → Int32) (xs : List Nat) : Prop := ∀ k x, xs[k]? = some x → f 36 k = nI x
section PK
variable {v v' : Nat → Int32} {f f' : Nat → Nat → Int32} {g g' : Nat → Nat → Int64} {l : LGt} {made dn : Nat} {sg : Nat → List Dc} {hd : Nat → Nat → Nat}
theorem orL_2 {a x w : Nat} : a ||| x < 2 ^ w ↔ a < 2 ^ w ∧ x < 2 ^ w := by
  have := orL_lt (w := w) (l := [a, x])
  rw [show orL [a, x] = a ||| x from by show a ||| (x ||| 0) = _; rw [Nat.or_zero]] at this
  rw [this]
  constructor
  · intro h; exact ⟨h a (by simp), h x (by simp)⟩
  · rintro ⟨h1, h2⟩ y hy
    rcases List.mem_cons.mp hy with rfl | hy
    · exact h1
    · rw [List.mem_singleton.mp hy]; exact h2
end PK
