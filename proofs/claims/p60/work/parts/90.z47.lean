/-! both worlds together: sorting -/
theorem srW_ex {N : Nat → Nat} {dn : Bool} : ∀ k : Nat, ∃ W, srW N dn k W
  | 0 => ⟨[], srW_0⟩
  | k + 1 => by
    obtain ⟨W, hW⟩ := srW_ex (N := N) (dn := dn) k
    obtain ⟨a1, a2, a3⟩ := id hW
    have wl : W.length = k := by rw [a1.length_eq, List.length_range]
    have go : ∀ q, q ≤ k → (∀ p i, p < q → W[p]? = some i → ltB dn (N k) (N i) = false) ∨ ∃ p0, p0 ≤ k ∧ (∀ p i, p < p0 → W[p]? = some i → ltB dn (N k) (N i) = false) ∧ ∀ p i, p0 ≤ p → W[p]? = some i → ltB dn (N k) (N i) = true := by
      intro q
      induction q with
      | zero => exact fun _ => Or.inl (fun p i hp => absurd hp (Nat.not_lt_zero p))
      | succ q ih =>
        intro hq
        rcases ih (by omega) with h | h
        · obtain ⟨i0, h0⟩ := get_ex (l := W) (k := q) (by omega)
          cases c : ltB dn (N k) (N i0) with
          | false =>
            refine Or.inl (fun p i hp hi => ?_)
            by_cases e : p = q
            · rw [e, h0] at hi
              rw [← Option.some.inj hi]; exact c
            · exact h p i (by omega) hi
          | true =>
            refine Or.inr ⟨q, by omega, h, fun p i hp hi => ?_⟩
            by_cases e : p = q
            · rw [e, h0] at hi
              rw [← Option.some.inj hi]; exact c
            · have h3 := ltB_f.mp (a3 q p i0 i (by omega) h0 hi)
              have h4 := ltB_t.mp c
              refine ltB_t.mpr ?_
              cases dn with
              | true => rw [if_pos rfl] at h3 h4 ⊢; omega
              | false => rw [if_neg (by decide)] at h3 h4 ⊢; omega
        · exact Or.inr h
    rcases go k (Nat.le_refl k) with h | ⟨p0, h1, h2, h3⟩
    · exact ⟨_, srW_ins (p0 := k) hW (Nat.le_refl k) h (fun p i hp hi => absurd (get_lt hi) (by omega))⟩
    · exact ⟨_, srW_ins hW h1 h2 h3⟩
theorem splN_on {N : Nat → Nat} {dn : Bool} {k p : Nat} (hp : p < k) : ∃ i, i < k ∧ splN N dn k i = p := by
  obtain ⟨W, a1, a2, -⟩ := srW_ex (N := N) (dn := dn) k
  obtain ⟨i, hi⟩ := get_ex (l := W) (k := p) (by rw [a1.length_eq, List.length_range]; exact hp)
  exact ⟨i, List.mem_range.mp (a1.mem_iff.mp (List.mem_of_getElem? hi)), a2 p i hi⟩
theorem splN_at {N : Nat → Nat} {dn : Bool} {k i : Nat} (hi : i < k) : ∃ p W, srW N dn k W ∧ p < k ∧ W[p]? = some i ∧ splN N dn k i = p := by
  obtain ⟨W, a1, a2, a3⟩ := srW_ex (N := N) (dn := dn) k
  obtain ⟨p, hp⟩ := List.mem_iff_getElem?.mp (a1.mem_iff.mpr (List.mem_range.mpr hi))
  exact ⟨p, W, ⟨a1, a2, a3⟩, by have := get_lt hp; rw [a1.length_eq, List.length_range] at this; exact this, hp, a2 p i hp⟩
theorem splN_lt {N : Nat → Nat} {dn : Bool} {k i : Nat} (hi : i < k) : splN N dn k i < k := by
  obtain ⟨p, W, -, h, -, e⟩ := splN_at (N := N) (dn := dn) hi
  rw [e]; exact h
theorem splN_inj {N : Nat → Nat} {dn : Bool} {k i j : Nat} (hi : i < k) (hj : j < k) (h : splN N dn k i = splN N dn k j) : i = j := by
  obtain ⟨W, a1, a2, a3⟩ := srW_ex (N := N) (dn := dn) k
  obtain ⟨p, hp⟩ := List.mem_iff_getElem?.mp (a1.mem_iff.mpr (List.mem_range.mpr hi))
  obtain ⟨q, hq⟩ := List.mem_iff_getElem?.mp (a1.mem_iff.mpr (List.mem_range.mpr hj))
  have e : p = q := (a2 p i hp).symm.trans (h.trans (a2 q j hq))
  rw [e, hq] at hp
  exact (Option.some.inj hp).symm
theorem srO_F {v v' : Nat → Int32} {f f' : Nat → Nat → Int32} {g : Nat → Nat → Int64} (h : srO v v' f f') : rF [99, 60] [38, 39, 52, 53, 54, 55, 56] [] v f g v' f' g := ⟨h.1, h.2, fun _ _ => rfl⟩
