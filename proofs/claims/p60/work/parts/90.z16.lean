/-! the reference: entries that were used, the newest last -/
/-- one more use -/
def tkS (R : List (Nat × Nat)) (y : Nat × Nat) (R' : List (Nat × Nat)) (b : Bool) : Prop := ∃ a, R' = R.eraseIdx a ++ [y] ∧ ((b = true ∧ R[a]? = some y) ∨ (b = false ∧ y ∉ R ∧ a = if R.length = 8 then 0 else R.length))
def tkR (qn : Nat) (ids : List Nat) : Nat → List (Nat × Nat) × Nat → List (Nat × Nat) × Nat → Prop
  | 0, s, s' => s' = s
  | k + 1, s, s' => ∃ s1, tkR qn ids k s s1 ∧ ∃ n b, ids[k]? = some n ∧ tkS s1.1 (qn, n) s'.1 b ∧ s'.2 = s1.2 + (if b = true then 1 else 0)
/-- the uses in rows -/
def rCa (v : Nat → Int32) (f : Nat → Nat → Int32) (R : List (Nat × Nat)) : Prop := v 85 = nI R.length ∧ R.length ≤ 8 ∧ ∀ i y, R[i]? = some y → f 57 i = nI y.1 ∧ f 58 i = nI y.2 ∧ y.1 < 2 ^ 31 ∧ y.2 < 2 ^ 31
theorem er_len {α : Type} {l : List α} {a : Nat} : (l.eraseIdx a).length = if a < l.length then l.length - 1 else l.length := List.length_eraseIdx
theorem er_get {α : Type} {l : List α} {a j : Nat} : (l.eraseIdx a)[j]? = if j < a then l[j]? else l[j + 1]? := List.getElem?_eraseIdx
theorem tkS_len {R R' : List (Nat × Nat)} {y : Nat × Nat} {b : Bool} (h : tkS R y R' b) (h8 : R.length ≤ 8) : R'.length ≤ 8 := by
  obtain ⟨a, rfl, h2⟩ := h
  rw [List.length_append, er_len]
  show _ + 1 ≤ 8
  rcases h2 with ⟨-, h2⟩ | ⟨-, -, h2⟩
  · have := get_lt h2
    rw [if_pos this]; omega
  · by_cases c : R.length = 8
    · rw [if_pos c] at h2
      rw [h2, if_pos (by omega)]; omega
    · rw [if_neg c] at h2
      rw [h2, if_neg (by omega)]; omega
section TK
variable {v v' : Nat → Int32} {f f' : Nat → Nat → Int32} {g g' : Nat → Nat → Int64} {R : List (Nat × Nat)}
theorem rCa_fr (h1 : v' 85 = v 85) (h2 : f' 57 = f 57) (h3 : f' 58 = f 58) (h : rCa v f R) : rCa v' f' R := by
  unfold rCa
  rw [h1, h2, h3]; exact h
end TK
