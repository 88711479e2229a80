/-! the reference: passages of a document -/
section PD
variable {v v' : Nat → Int32} {f f' : Nat → Nat → Int32} {g g' : Nat → Nat → Int64} {l : LGt} {made dn : Nat} {sg : Nat → List Dc} {hd : Nat → Nat → Nat} {sl : Nat → Option (Nat × Vw)} {a k q m w0 w1 : Nat} {s : Vw} {nd : Nat → Nd} {rr : Nat → Nat} {qs : List (Nat × (Nat → Nd))}
/-- what passages are not asked of -/
def nPas (sl : Nat → Option (Nat × Vw)) (qs : List (Nat × (Nat → Nd))) (x y z t : Int32) : Prop := nAsk sl qs x y ∨ (∃ a s q e, isA sl qs x y a s q e ∧ ((∀ k, k < 100 → z ≠ nI k) ∨ ∃ key, key < 100 ∧ z = nI key ∧ ∀ k, k < 2 → t ≠ nI k))
/-- what they may change -/
def psO (v v' : Nat → Int32) (f f' : Nat → Nat → Int32) : Prop := (∀ i, i ∉ [60, 92] → v' i = v i) ∧ ∀ n, n ∉ [38, 52, 53, 54, 55, 56, 61, 62, 63, 64] → f' n = f n
theorem paI_out {L : List Nat} {x : Int32} (h : ∀ k, k < L.length → x ≠ nI k) : paI L x = -1 := by
  unfold paI
  split
  · rfl
  · rename_i c
    obtain ⟨k, -, k31, rfl⟩ := i32_ge (a := 0) (by decide) c
    rw [nI_clamp k31]
    cases e : L[k]? with
    | none => rfl
    | some p => exact absurd rfl (h k (get_lt e))
theorem paI_at {L : List Nat} {k p : Nat} (hk : k < 2 ^ 31) (h : L[k]? = some p) : paI L (nI k) = nI p := by
  unfold paI
  rw [if_neg (show ¬ nI k < (0 : Int32) from nI_pos hk), nI_clamp hk, h]
end PD
