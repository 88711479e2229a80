/-! the reference: nodes; tokens of the pad; leaves -/
def amN (d : Nd) : Nat := if nK d = 4 then (nQ d).length else if nK d = 7 then 0 else nL d
def mnN (d : Nd) : Nat := if nK d ≤ 2 then (nT d).length else if nK d < 6 then 1 else nP d
/-- a node in rows -/
def rNd (f : Nat → Nat → Int32) (g : Nat → Nat → Int64) (o : Nat) (d : Nd) : Prop := (f 40 o = nI (nK d) ∧ nK d < 8) ∧ (nK d < 6 → f 41 o = nI (nF d)) ∧ f 42 o = nI (amN d) ∧ (nK d < 6 → f 43 o = bI (nO d)) ∧ f 44 o = nI (mnN d) ∧ ((nT d).length ≤ 6 ∧ (nQ d).length ≤ 12) ∧ (nK d ≤ 2 → ∀ k x, (nT d)[k]? = some x → g 45 (6 * o + k) = x.1 ∧ f 46 (6 * o + k) = nI x.2) ∧ (nK d = 3 ∨ nK d = 5 → g 45 (6 * o) = lN (nW d)) ∧ (nK d = 4 → ∀ k x, (nQ d)[k]? = some x → f 47 (12 * o + k) = nI x)
theorem rNd_cp {f f' : Nat → Nat → Int32} {g g' : Nat → Nat → Int64} {o o' : Nat} {d : Nd} (h : rNd f g o d) (e0 : f' 40 o' = f 40 o) (e1 : f' 41 o' = f 41 o) (e2 : f' 42 o' = f 42 o) (e3 : f' 43 o' = f 43 o) (e4 : f' 44 o' = f 44 o) (e5 : ∀ k, k < 6 → g' 45 (6 * o' + k) = g 45 (6 * o + k)) (e6 : ∀ k, k < 6 → f' 46 (6 * o' + k) = f 46 (6 * o + k)) (e7 : ∀ k, k < 12 → f' 47 (12 * o' + k) = f 47 (12 * o + k)) : rNd f' g' o' d := by
  obtain ⟨⟨h1, h1'⟩, h2, h3, h4, h5, ⟨h6, h6'⟩, h7, h8, h9⟩ := h
  refine ⟨⟨e0.trans h1, h1'⟩, fun q => e1.trans (h2 q), e2.trans h3, fun q => e3.trans (h4 q), e4.trans h5, ⟨h6, h6'⟩, fun q k x hk => ?_, fun q => ?_, fun q k x hk => ?_⟩
  · have := get_lt hk
    rw [e5 k (by omega), e6 k (by omega)]; exact h7 q k x hk
  · have := e5 0 (by decide)
    rw [Nat.add_zero, Nat.add_zero] at this
    exact this.trans (h8 q)
  · have := get_lt hk
    rw [e7 k (by omega)]; exact h9 q k x hk
/-- the parts in rows -/
def rPr (v : Nat → Int32) (f : Nat → Nat → Int32) (g : Nat → Nat → Int64) (m : Nat) (nd : Nat → Nd) : Prop := f 48 40 = nI m ∧ v 71 = nI (lfI nd m).length ∧ v 72 = nI (qsS nd m).1 ∧ ∀ k, k < m → rNd f g (1920 + k) (nd k)
/-- tokens of the pad -/
noncomputable def tkP (l : LGt) (P : Nat → Nat) (n : Nat) : List (Int64 × Nat) := tkL l.1 l.2.1 0 l.2.2.2 (fun k => lN (stW (wdW P n k))) (wdC P n)
section LV
variable {v v' : Nat → Int32} {f f' : Nat → Nat → Int32} {g g' : Nat → Nat → Int64} {l : LGt} {n m : Nat} {P : Nat → Nat} {nd : Nat → Nd}
theorem tkP_s {k : Nat} {F S : Nat → Int64} {stp : Int64 → Bool} {st : Nat → Int64} : tkL F S 0 stp st (k + 1) = tkL F S 0 stp st k ++ (if stp (st k) = true then [] else [(st k, k)]) := by
  rw [tkL]
  split
  · rw [List.append_nil]
  · rfl
end LV
