/-! the reference: merge -/
section MG
variable {v v' : Nat → Int32} {f f' : Nat → Nat → Int32} {g g' : Nat → Nat → Int64} {l : LGt} {B : List Dc} {made dn w : Nat} {sg : Nat → List Dc} {hd : Nat → Nat → Nat} {ids : List Nat} {lv : Nat → Nat → Bool} {cc : Option Nat} {off : Bool} {mg : Option (Vw × Nat)}
theorem src_get {k a n : Nat} (h : ((ids.drop k).take 3)[a]? = some n) : a < 3 ∧ ids[k + a]? = some n := by
  have hl := get_lt h
  rw [List.length_take] at hl
  rw [List.getElem?_take, if_pos (by omega), List.getElem?_drop] at h
  exact ⟨by omega, h⟩
theorem src_ex {k a : Nat} (ha : a < 3) (hk : k + 2 < ids.length) : ∃ n, ((ids.drop k).take 3)[a]? = some n ∧ ids[k + a]? = some n := by
  obtain ⟨n, hn⟩ := get_ex (l := ids) (k := k + a) (by omega)
  exact ⟨n, by rw [List.getElem?_take, if_pos ha, List.getElem?_drop]; exact hn, hn⟩
end MG
