/-! the reference: which segments are named -/
section NM
variable {v v' : Nat → Int32} {f f' : Nat → Nat → Int32} {g g' : Nat → Nat → Int64} {made : Nat} {sg : Nat → List Dc} {ids : List Nat} {lv : Nat → Nat → Bool} {o : Option Vw}
theorem tk_mem {l : List Nat} {k m n : Nat} (h : l[k]? = some m) : decide (n ∈ l.take (k + 1)) = (decide (n ∈ l.take k) || decide (m = n)) := by
  rw [List.take_add_one, h, Bool.eq_iff_iff, Bool.or_eq_true, decide_eq_true_iff, decide_eq_true_iff, decide_eq_true_iff, List.mem_append]
  refine or_congr Iff.rfl ?_
  show n ∈ [m] ↔ m = n
  rw [List.mem_singleton]
  exact ⟨fun e => e.symm, fun e => e.symm⟩
/-- the segments of a view that may be missing -/
def ovL (o : Option Vw) : List Nat := match o with
  | some s => s.1
  | none => []
end NM
