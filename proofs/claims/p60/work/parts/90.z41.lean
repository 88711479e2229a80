/-! both worlds together: delete -/
theorem dkR_fn {sg : Nat → List Dc} {ids : List Nat} {key : Nat} {B B1 B2 : List Dc} {lv lv1 lv2 : Nat → Nat → Bool} {b1 b2 : Bool} (hk : key < 100) (hb : ∀ d, d ∈ B → dK d < 100) (hs : ∀ n, n ∈ ids → ∀ d, d ∈ sg n → dK d < 100) (hub : ∀ (i i' : Nat) (d d' : Dc), B[i]? = some d → B[i']? = some d' → dK d = dK d' → i = i') (hu : oneK sg ids lv key) (h1 : dkR sg ids (nI key) B lv B1 lv1 b1) (h2 : dkR sg ids (nI key) B lv B2 lv2 b2) : B1 = B2 ∧ lv1 = lv2 ∧ b1 = b2 := by
  have inj : ∀ {a : Nat}, a < 100 → nI a = nI key → a = key := fun ha e => (nI_eq (by omega) (by omega)).mp e
  rcases h1 with ⟨i, d, e1, e2, e3, e4, e5⟩ | ⟨e0, e3, h1⟩
  · rcases h2 with ⟨i', d', f1, f2, f3, f4, f5⟩ | ⟨f0, -⟩
    · have : i = i' := hub i i' d d' e1 f1 ((inj (hb d (List.mem_of_getElem? e1)) e2).trans (inj (hb d' (List.mem_of_getElem? f1)) f2).symm)
      subst this
      exact ⟨e3.trans f3.symm, e4.trans f4.symm, e5.trans f5.symm⟩
    · exact absurd e2 (f0 d (List.mem_of_getElem? e1))
  · rcases h2 with ⟨i', d', f1, f2, -⟩ | ⟨f0, f3, h2⟩
    · exact absurd f2 (e0 d' (List.mem_of_getElem? f1))
    · rcases h1 with ⟨n, j, d, g1, g2, g3, g4, g5, g6⟩ | ⟨g0, g5, g6⟩
      · rcases h2 with ⟨n', j', d', k1, k2, k3, k4, k5, k6⟩ | ⟨k0, -⟩
        · have := hu n j d n' j' d' g1 k1 g2 k2 g3 k3 (inj (hs n g1 d (List.mem_of_getElem? g2)) g4) (inj (hs n' k1 d' (List.mem_of_getElem? k2)) k4)
          obtain ⟨rfl, rfl⟩ := this
          exact ⟨e3.trans f3.symm, g5.trans k5.symm, g6.trans k6.symm⟩
        · exact absurd g4 (k0 n j d g1 g2 g3)
      · rcases h2 with ⟨n', j', d', k1, k2, k3, k4, -⟩ | ⟨-, k5, k6⟩
        · exact absurd k4 (g0 n' j' d' k1 k2 k3)
        · exact ⟨e3.trans f3.symm, g5.trans k5.symm, g6.trans k6.symm⟩
/-- what a deletion leaves is part of what was -/
theorem dkR_sub {sg : Nat → List Dc} {ids : List Nat} {key : Int32} {B B' : List Dc} {lv lv' : Nat → Nat → Bool} {b : Bool} (h : dkR sg ids key B lv B' lv' b) : (∀ d, d ∈ B' → d ∈ B) ∧ B'.length ≤ B.length ∧ (∀ n j, lv' n j = true → lv n j = true) ∧ ((∀ (i i' : Nat) (d d' : Dc), B[i]? = some d → B[i']? = some d' → dK d = dK d' → i = i') → ∀ (i i' : Nat) (d d' : Dc), B'[i]? = some d → B'[i']? = some d' → dK d = dK d' → i = i') := by
  rcases h with ⟨i, d, e1, e2, rfl, rfl, e5⟩ | ⟨e0, rfl, h1⟩
  · refine ⟨fun d hd => List.mem_of_mem_eraseIdx hd, by rw [er_len]; split <;> omega, fun _ _ h => h, fun hub a a' d d' h1 h2 h3 => ?_⟩
    rw [er_get] at h1 h2
    split at h1 <;> split at h2
    · exact hub a a' d d' h1 h2 h3
    · have := hub a (a' + 1) d d' h1 h2 h3; omega
    · have := hub (a + 1) a' d d' h1 h2 h3; omega
    · have := hub (a + 1) (a' + 1) d d' h1 h2 h3; omega
  · refine ⟨fun _ h => h, Nat.le_refl _, fun n j hh => ?_, fun h => h⟩
    rcases h1 with ⟨n', j', d, -, -, -, -, rfl, -⟩ | ⟨-, rfl, -⟩
    · have hh : (if n = n' ∧ j = j' then false else lv n j) = true := hh
      split at hh
      · exact absurd hh (by decide)
      · exact hh
    · exact hh
section CASJ
variable {S T U S8 : cS} {v v' : Nat → Int32} {f f' : Nat → Nat → Int32} {g g' : Nat → Nat → Int64} {dp x out k cd dd L : Nat} {x4 : Int32} {xs : Nat → Int32} {R : Int32 → Nat → Nat → cS → (Nat → Int32) → (Nat → Nat → Int32) → (Nat → Nat → Int64) → Prop}
theorem rBf_key {l : LGt} {B : List Dc} (h : rBf l v f g B) : ∀ d, d ∈ B → dK d < 100 := fun d hd => by
  obtain ⟨j, hj⟩ := List.mem_iff_getElem?.mp hd
  exact (h.2.2 j d hj).1.2
end CASJ
