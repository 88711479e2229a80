/-! the reference: differs, drop -/
section DR
variable {v v' : Nat → Int32} {f f' : Nat → Nat → Int32} {g g' : Nat → Nat → Int64} {l : LGt} {made dn w : Nat} {sg : Nat → List Dc} {hd : Nat → Nat → Nat} {off : Bool} {pr : Option Vw}
/-- a row is copied to another one for some segments -/
def rCp (f f' : Nat → Nat → Int32) (to fr' : Nat) (sg : Nat → List Dc) (ns : List Nat) : Prop := (∀ n, n ∈ ns → ∀ j, j < (sg n).length → f' to (100 * n + j) = f fr' (100 * n + j)) ∧ ∀ c, (∀ n, n ∈ ns → ∀ j, j < (sg n).length → c ≠ 100 * n + j) → f' to c = f to c
end DR
