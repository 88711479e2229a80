/-! the reference: questions of a snapshot; ranks by scan, matches, facets -/
/-- what is not asked of anything -/
def nAsk (sl : Nat → Option (Nat × Vw)) (qs : List (Nat × (Nat → Nd))) (x y : Int32) : Prop := (∀ k s, k < 5 → sl k = some s → nI s.1 ≠ x) ∨ ∃ a s, a < 5 ∧ sl a = some s ∧ nI s.1 = x ∧ ∀ k, k < qs.length → y ≠ nI k
def isA (sl : Nat → Option (Nat × Vw)) (qs : List (Nat × (Nat → Nd))) (x y : Int32) (a : Nat) (s : Nat × Vw) (q : Nat) (e : Nat × (Nat → Nd)) : Prop := a < 5 ∧ sl a = some s ∧ nI s.1 = x ∧ qs[q]? = some e ∧ y = nI q
section AS
variable {v v' : Nat → Int32} {f f' : Nat → Nat → Int32} {g g' : Nat → Nat → Int64} {l : LGt} {made dn : Nat} {sg : Nat → List Dc} {hd : Nat → Nat → Nat} {sl : Nat → Option (Nat × Vw)} {a k q m w0 w1 : Nat} {s : Vw} {nd : Nat → Nd} {rr : Nat → Nat} {qs : List (Nat × (Nat → Nd))}
/-- what a read of a snapshot may change -/
def rdO (v v' : Nat → Int32) (f f' : Nat → Nat → Int32) : Prop := (∀ i, i ∉ [99, 60] → v' i = v i) ∧ v' 99 = nI 0 ∧ ∀ n, n ∉ [38, 52, 53, 54, 55, 56] → f' n = f n
theorem hid_of {sl : Nat → Option (Nat × Vw)} {s : Nat × Vw} (hk : rLk f made sg sl) (ha : a < 5) (hsl : sl a = some s) : ∀ n, n ∈ s.2.1 → n < made := fun n hn => by
  obtain ⟨j, hj⟩ := List.mem_iff_getElem?.mp hn
  exact (((hk a ha).2 s hsl).2.2.2.1 j n hj).2
end AS
