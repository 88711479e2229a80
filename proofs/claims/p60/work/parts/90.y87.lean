/-! the reference: crashAt, isDown, writes, finish -/
/-- a view in rows -/
def rVw (f : Nat → Nat → Int32) (row lrow made : Nat) (sg : Nat → List Dc) (s : Vw) : Prop := s.1.length ≤ 200 ∧ (∀ k n, s.1[k]? = some n → f row k = nI n ∧ n < made) ∧ ∀ n, n ∈ s.1 → ∀ j, j < (sg n).length → f lrow (100 * n + j) = bI (s.2 n j)
def rOv (v : Nat → Int32) (f : Nat → Nat → Int32) (flag cnt row lrow made : Nat) (sg : Nat → List Dc) (o : Option Vw) : Prop := v flag = bI o.isSome ∧ ∀ s, o = some s → v cnt = nI s.1.length ∧ rVw f row lrow made sg s
/-- all of a row are truths -/
def zRw (f : Nat → Nat → Int32) (n N : Nat) : Prop := ∀ k, k < N → isZ (f n k)
