/-! the reference: what is sorted at a place -/
section SP
variable {v v' : Nat → Int32} {f f' : Nat → Nat → Int32} {g g' : Nat → Nat → Int64} {l : LGt} {made dn : Nat} {sg : Nat → List Dc} {hd : Nat → Nat → Nat} {sl : Nat → Option (Nat × Vw)} {a k q m w0 w1 : Nat} {s : Vw} {nd : Nat → Nd} {rr : Nat → Nat} {qs : List (Nat × (Nat → Nd))}
theorem srW_0 {N : Nat → Nat} {up : Bool} : srW N up 0 [] := ⟨List.Perm.refl _, fun p i hi => absurd (get_lt hi) (Nat.not_lt_zero p), fun p p' i i' _ hi => absurd (get_lt hi) (Nat.not_lt_zero p)⟩
/-- what a sort may change -/
def srO (v v' : Nat → Int32) (f f' : Nat → Nat → Int32) : Prop := (∀ i, i ∉ [99, 60] → v' i = v i) ∧ ∀ n, n ∉ [38, 39, 52, 53, 54, 55, 56] → f' n = f n
end SP
