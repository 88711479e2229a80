/-! the reference: writes, flushes -/
section WR
variable {v v' : Nat → Int32} {f f' : Nat → Nat → Int32} {g g' : Nat → Nat → Int64} {l : LGt} {B : List Dc} {made dn w : Nat} {sg : Nat → List Dc} {hd : Nat → Nat → Nat} {ids : List Nat} {lv : Nat → Nat → Bool} {cc : Option Nat}
/-- the machine has gone DOWN -/
def rDn (v : Nat → Int32) (f : Nat → Nat → Int32) : Prop := v 98 = bI true ∧ v 20 = nI 0 ∧ v 49 = bI false ∧ v 40 = bI false ∧ v 85 = nI 0 ∧ v 88 = nI 0 ∧ v 89 = nI 0 ∧ v 90 = nI 0 ∧ v 34 = nI 0 ∧ ∀ k, k < 5 → f 29 k = -1
/-- the buffer is a segment now -/
def sgF (made : Nat) (sg : Nat → List Dc) (B : List Dc) : Nat → List Dc := upR sg made B
def hdF (made dn : Nat) (hd : Nat → Nat → Nat) : Nat → Nat → Nat := upR hd made (fun j => dn + j)
def lvF (made : Nat) (lv : Nat → Nat → Bool) : Nat → Nat → Bool := fun n j => if n = made then true else lv n j
end WR
