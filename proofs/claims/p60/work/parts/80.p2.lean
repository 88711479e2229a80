/-! the reference: stems, synonyms, the pad -/
theorem stW_1 {w : Nat} (h : 6 ≤ lnW w) (h1 : endW w (lnW w) 103 0 = true) (h2 : endW w (lnW w) 110 1 = true) (h3 : endW w (lnW w) 105 2 = true) : stW w = cutW w (lnW w - 3) := by
  unfold stW; rw [if_pos ⟨h, h1, h2, h3⟩]
theorem stW_2 {w : Nat} (n1 : ¬ (6 ≤ lnW w ∧ endW w (lnW w) 103 0 = true ∧ endW w (lnW w) 110 1 = true ∧ endW w (lnW w) 105 2 = true)) (h : 5 ≤ lnW w) (h1 : endW w (lnW w) 100 0 = true) (h2 : endW w (lnW w) 101 1 = true) : stW w = cutW w (lnW w - 2) := by
  unfold stW; rw [if_neg n1, if_pos ⟨h, h1, h2⟩]
theorem stW_3 {w : Nat} (n1 : ¬ (6 ≤ lnW w ∧ endW w (lnW w) 103 0 = true ∧ endW w (lnW w) 110 1 = true ∧ endW w (lnW w) 105 2 = true)) (n2 : ¬ (5 ≤ lnW w ∧ endW w (lnW w) 100 0 = true ∧ endW w (lnW w) 101 1 = true)) (h : 4 ≤ lnW w) (h1 : endW w (lnW w) 115 0 = true) (h2 : endW w (lnW w) 115 1 = false) : stW w = cutW w (lnW w - 1) := by
  unfold stW; rw [if_neg n1, if_neg n2, if_pos ⟨h, h1, by rw [h2]; decide⟩]
theorem stW_4 {w : Nat} (n1 : ¬ (6 ≤ lnW w ∧ endW w (lnW w) 103 0 = true ∧ endW w (lnW w) 110 1 = true ∧ endW w (lnW w) 105 2 = true)) (n2 : ¬ (5 ≤ lnW w ∧ endW w (lnW w) 100 0 = true ∧ endW w (lnW w) 101 1 = true)) (n3 : ¬ (4 ≤ lnW w ∧ endW w (lnW w) 115 0 = true ∧ ¬ endW w (lnW w) 115 1 = true)) : stW w = w := by
  unfold stW; rw [if_neg n1, if_neg n2, if_neg n3]
/-- whether a synonym gives another token, which no earlier one gives -/
def gvB (F S : Nat → Int64) (j : Nat) (t : Int64) : Bool := ((F j == t) && !(S j == t)) && !(anyB (fun k => (F k == t) && (S k == S j)) j)
theorem gv_0 {X : Bool} {q : Nat → Bool} {k : Nat} (h : (X && !anyB q k) = false) : (X && !anyB q (k + 1)) = false := by
  rw [anyB]; cases X <;> simp_all
theorem gv_1 {X : Bool} {q : Nat → Bool} {k : Nat} (h : (X && !anyB q k) = true) (h2 : q k = false) : (X && !anyB q (k + 1)) = true := by
  rw [anyB]; cases X <;> simp_all
theorem gv_2 {X : Bool} {q : Nat → Bool} {k : Nat} (h2 : q k = true) : (X && !anyB q (k + 1)) = false := by
  rw [anyB]; cases X <;> simp_all
