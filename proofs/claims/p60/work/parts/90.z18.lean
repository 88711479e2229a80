/-! the reference: searches, hits, what was skipped, what was used
-/
section FD
variable {v v' : Nat → Int32} {f f' : Nat → Nat → Int32} {g g' : Nat → Nat → Int64} {l : LGt} {made dn : Nat} {sg : Nat → List Dc} {hd : Nat → Nat → Nat} {sl : Nat → Option (Nat × Vw)} {a k q m w0 w1 : Nat} {s : Vw} {nd : Nat → Nd} {rr : Nat → Nat} {R : List (Nat × Nat)}
/-- queries keep what searches ask -/
def qrG (qs : List (Nat × (Nat → Nd))) : Prop := ∀ e, e ∈ qs → qWf e ∧ ∀ j, j < e.1 → ndG (e.2 j)
variable {qs : List (Nat × (Nat → Nd))}
theorem rQl_56 (h73 : v' 73 = v 73) (hf : ∀ n, 40 ≤ n → n ≤ 48 → f' n = f n) (h : rQl v f g qs) : rQl v' f' g qs := by
  obtain ⟨h1, h2, h3⟩ := h
  refine ⟨h73.trans h1, h2, fun i e hi => ?_⟩
  obtain ⟨a1, a2, a3⟩ := h3 i e hi
  refine ⟨by rw [hf 48 (by decide) (by decide)]; exact a1, a2, fun j hj => rNd_cp (a3 j hj) ?_ ?_ ?_ ?_ ?_ (fun _ _ => rfl) (fun i _ => ?_) (fun i _ => ?_)⟩
  · rw [hf 40 (by decide) (by decide)]
  · rw [hf 41 (by decide) (by decide)]
  · rw [hf 42 (by decide) (by decide)]
  · rw [hf 43 (by decide) (by decide)]
  · rw [hf 44 (by decide) (by decide)]
  · rw [hf 46 (by decide) (by decide)]
  · rw [hf 47 (by decide) (by decide)]
end FD
