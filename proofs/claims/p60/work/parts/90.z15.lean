/-! the reference: hits are held; the entries that were used -/
theorem nI_dec (p : Nat) (h : p < 2 ^ 31) : nI (p + 1) + (-1) = nI p := by
  rw [show (-1 : Int32) = 0 - nI 1 from rfl]
  have := pk_sub (a := p + 1) (b := 1) (by omega)
  rw [show p + 1 - 1 = p by omega] at this
  rw [← this]
  simp [Int32.sub_eq_add_neg]
/-- the hits in rows -/
def rHt (v : Nat → Int32) (f : Nat → Nat → Int32) (H : List (Nat × Nat)) : Prop := v 88 = nI H.length ∧ H.length ≤ 20 ∧ ∀ i x, H[i]? = some x → f 59 i = nI x.1 ∧ f 60 i = nI x.2 ∧ x.2 < 2 ^ 31
section HO
variable {v v' : Nat → Int32} {f f' : Nat → Nat → Int32} {g g' : Nat → Nat → Int64} {H : List (Nat × Nat)}
theorem rHt_fr (h1 : v' 88 = v 88) (h2 : f' 59 = f 59) (h3 : f' 60 = f 60) (h : rHt v f H) : rHt v' f' H := by
  unfold rHt
  rw [h1, h2, h3]; exact h
end HO
