/-! the reference: snapshots -/
section SL
variable {v v' : Nat → Int32} {f f' : Nat → Nat → Int32} {g g' : Nat → Nat → Int64} {l : LGt} {made dn op : Nat} {sg : Nat → List Dc} {hd : Nat → Nat → Nat} {sl : Nat → Option (Nat × Vw)} {ids : List Nat} {lv : Nat → Nat → Bool} {cm pr : Option Vw} {mg : Option (Vw × Nat)} {off : Bool}
/-- slots may be read elsewhere -/
theorem rLk_fr (h1 : f' 29 = f 29) (h2 : f' 30 = f 30) (h3 : f' 31 = f 31) (h4 : f' 32 = f 32) (h : rLk f made sg sl) : rLk f' made sg sl := by
  unfold rLk
  rw [h1, h2, h3, h4]; exact h
end SL
