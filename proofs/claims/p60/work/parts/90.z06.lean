/-! the reference: WILD, groups -/
section WJ
variable {v v' : Nat → Int32} {f f' : Nat → Nat → Int32} {g g' : Nat → Nat → Int64} {l : LGt} {n m : Nat} {P : Nat → Nat} {nd : Nat → Nd}
theorem pfN_lt {x : Nat} : pfN x < 39 := by
  unfold pfN
  split
  · decide
  · split
    · decide
    · have := figN_lt x
      omega
theorem rPr_99 {t : Int32} (h : rPr v f g m nd) : rPr (upd v 99 t) f g m nd := ⟨h.1, (upd_n (by decide)).trans h.2.1, (upd_n (by decide)).trans h.2.2.1, h.2.2.2⟩
end WJ
