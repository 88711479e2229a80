/-! the reference: a query is made -/
/-- the queries in rows -/
def rQl (v : Nat → Int32) (f : Nat → Nat → Int32) (g : Nat → Nat → Int64) (qs : List (Nat × (Nat → Nd))) : Prop := v 73 = nI qs.length ∧ qs.length ≤ 40 ∧ ∀ i e, qs[i]? = some e → f 48 i = nI e.1 ∧ e.1 ≤ 48 ∧ ∀ k, k < e.1 → rNd f g (48 * i + k) (e.2 k)
section QY
variable {v v' : Nat → Int32} {f f' : Nat → Nat → Int32} {g g' : Nat → Nat → Int64} {l : LGt} {n m : Nat} {P : Nat → Nat} {nd : Nat → Nd} {qs : List (Nat × (Nat → Nd))}
theorem rQl_lf (h73 : v' 73 = v 73) (hL : lfF f f' g g') (h : rQl v f g qs) : rQl v' f' g' qs := by
  obtain ⟨h1, h2, h3⟩ := h
  obtain ⟨l1, l2, l3, l4, l5⟩ := hL
  refine ⟨h73.trans h1, h2, fun i e hi => ?_⟩
  obtain ⟨a1, a2, a3⟩ := h3 i e hi
  have il := get_lt hi
  refine ⟨(l2 i (by omega)).trans a1, a2, fun k hk => ?_⟩
  obtain ⟨x0, x1, x2, x3, x4⟩ := l3 (48 * i + k) (by omega)
  exact rNd_cp (a3 k hk) x0 x1 x2 x3 x4 (fun j hj => (l4 _ (by omega)).2) (fun j hj => (l4 _ (by omega)).1) (fun j hj => l5 _ (by omega))
theorem rQl_fr (h1 : v' 73 = v 73) (h3 : ∀ r, r ∈ [40, 41, 42, 43, 44, 46, 47, 48] → f' r = f r) (h4 : g' 45 = g 45) (h : rQl v f g qs) : rQl v' f' g' qs := by
  refine rQl_lf h1 ⟨zK_eq (h3 43 (by decide)), fun i _ => by rw [h3 48 (by decide)], fun c _ => ?_, fun c _ => ?_, fun c _ => by rw [h3 47 (by decide)]⟩ h
  · rw [h3 40 (by decide), h3 41 (by decide), h3 42 (by decide), h3 43 (by decide), h3 44 (by decide)]
    exact ⟨rfl, rfl, rfl, rfl, rfl⟩
  · rw [h3 46 (by decide), h4]; exact ⟨rfl, rfl⟩
end QY
