/-! the reference: a key is deleted -/
theorem era_get2 {α : Type} {l : List α} {k j : Nat} {z : α} (h : (l.eraseIdx k)[j]? = some z) : (j < k ∧ l[j]? = some z) ∨ (k ≤ j ∧ l[j + 1]? = some z) := by
  rw [List.getElem?_eraseIdx] at h
  split at h
  · exact Or.inl ⟨by assumption, h⟩
  · exact Or.inr ⟨by omega, h⟩
theorem upd_at {v : Nat → Int32} {k : Nat} {x : Int32} : upd v k x k = x := if_pos rfl
/-- the index has one live document of a key at most -/
def oneK (sg : Nat → List Dc) (ids : List Nat) (lv : Nat → Nat → Bool) (key : Nat) : Prop := ∀ (n j : Nat) (d : Dc) (n' j' : Nat) (d' : Dc), n ∈ ids → n' ∈ ids → (sg n)[j]? = some d → (sg n')[j']? = some d' → lv n j = true → lv n' j' = true → dK d = key → dK d' = key → n = n' ∧ j = j'
