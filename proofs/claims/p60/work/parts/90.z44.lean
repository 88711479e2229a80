/-! both worlds together: facets, ranks by scan, passages -/
section CASM
variable {S T U S8 : cS} {v v' : Nat → Int32} {f f' : Nat → Nat → Int32} {g g' : Nat → Nat → Int64} {dp x out k cd dd L : Nat} {x4 : Int32} {xs : Nat → Int32} {R : Int32 → Nat → Nat → cS → (Nat → Int32) → (Nat → Nat → Int32) → (Nat → Nat → Int64) → Prop}
theorem ask_no {sn : List (Nat × Vw)} {sl : Nat → Option (Nat × Vw)} {qs : List (Nat × (Nat → Nd))} {x : Int32} {s : Nat × Vw} {q : Nat} (p8 : sn.Perm ((List.range 5).filterMap sl)) (hs : s ∈ sn) (ex : nI s.1 = x) (hq : q < qs.length) (w : nAsk sl qs x (nI q)) : False := by
  obtain ⟨a, ha, hsl⟩ := (sn_ex p8).mp hs
  rcases w with w | ⟨a', s', h5, hsl', ex', w⟩
  · exact w a s ha hsl ex
  · exact w q hq rfl
/-- a live document of a key is one alone -/
theorem key_un {sg : Nat → List Dc} {s : Vw} {key : Nat} (h : vG sg s) {n j : Nat} {d : Dc} (h1 : n ∈ s.1) (h2 : (sg n)[j]? = some d) (h3 : s.2 n j = true) (h4 : dK d = key) {y : Nat × Nat} {d' : Dc} (hy : y ∈ mtL sg s.2 s.1) (hd : (sg y.1)[y.2]? = some d') (hk : dK d' = key) : y.1 = n ∧ y.2 = j ∧ d' = d := by
  obtain ⟨b1, b2, b3⟩ := mtL_mem hy
  obtain ⟨e1, e2⟩ := h.2 key y.1 y.2 d' n j d b1 h1 hd h2 b3 h3 hk h4
  refine ⟨e1, e2, ?_⟩
  rw [e1, e2, h2] at hd
  exact (Option.some.inj hd).symm
theorem key_no {sg : Nat → List Dc} {s : Vw} {key : Nat} (h : ∀ (n j : Nat) (d : Dc), n ∈ s.1 → (sg n)[j]? = some d → s.2 n j = true → dK d ≠ key) {y : Nat × Nat} {d' : Dc} (hy : y ∈ mtL sg s.2 s.1) (hd : (sg y.1)[y.2]? = some d') : dK d' ≠ key := by
  obtain ⟨b1, b2, b3⟩ := mtL_mem hy
  exact h y.1 y.2 d' b1 hd b3
theorem mtL_in {sg : Nat → List Dc} {s : Vw} {n j : Nat} {d : Dc} (h1 : n ∈ s.1) (h2 : (sg n)[j]? = some d) (h3 : s.2 n j = true) : (n, j) ∈ mtL sg s.2 s.1 := by
  have fn : ∀ N, j < N → (n, j) ∈ fndJ (s.2 n) n N := fun N => by
    induction N with
    | zero => intro h; exact absurd h (Nat.not_lt_zero j)
    | succ N ih =>
      intro h
      rw [fndJ]
      by_cases c : j = N
      · subst c; rw [if_pos h3]; exact List.mem_append.mpr (Or.inr (List.mem_singleton.mpr rfl))
      · exact List.mem_append.mpr (Or.inl (ih (by omega)))
  exact List.mem_flatMap.mpr ⟨n, h1, fn _ (get_lt h2)⟩
end CASM
