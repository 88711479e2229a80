/-! token lists: a stem with its place, its synonyms behind it -/
def syL (F S : Nat → Int64) (s : Int64) (p : Nat) : Nat → List (Int64 × Nat)
  | 0 => []
  | i + 1 => syL F S s p i ++ (if gvB F S i s = true then [(S i, p)] else [])
def tkL (F S : Nat → Int64) (yn : Nat) (stp : Int64 → Bool) (st : Nat → Int64) : Nat → List (Int64 × Nat)
  | 0 => []
  | k + 1 => tkL F S yn stp st k ++ (if stp (st k) = true then [] else (st k, k) :: syL F S (st k) k yn)
section TL
variable {F S : Nat → Int64} {yn : Nat} {stp : Int64 → Bool} {st : Nat → Int64}
theorem anyB_ex {q : Nat → Bool} : ∀ {k : Nat}, anyB q k = true ↔ ∃ j, j < k ∧ q j = true
  | 0 => by
    constructor
    · intro h; exact Bool.noConfusion h
    · rintro ⟨j, hj, -⟩; omega
  | k + 1 => by
    constructor
    · intro h
      rw [anyB, Bool.or_eq_true] at h
      rcases h with h | h
      · obtain ⟨j, hj, hq⟩ := anyB_ex.mp h
        exact ⟨j, by omega, hq⟩
      · exact ⟨k, by omega, h⟩
    · rintro ⟨j, hj, hq⟩
      exact anyB_of hq hj
theorem gv_iff {j : Nat} {t : Int64} : gvB F S j t = true ↔ F j = t ∧ S j ≠ t ∧ ¬ ∃ k, k < j ∧ F k = t ∧ S k = S j := by
  unfold gvB
  rw [Bool.and_eq_true, Bool.and_eq_true, beq_iff_eq, Bool.not_eq_true', Bool.not_eq_true', beq_eq_false_iff_ne, ← Bool.not_eq_true, anyB_ex, and_assoc]
  simp only [Bool.and_eq_true, beq_iff_eq]
theorem gv_first {t : Int64} : ∀ (n i : Nat), i ≤ n → F i = t → S i ≠ t → ∃ k, k ≤ i ∧ gvB F S k t = true ∧ S k = S i
  | 0, i, h, e, s => by
    obtain rfl : i = 0 := by omega
    exact ⟨0, Nat.le_refl _, gv_iff.mpr ⟨e, s, fun ⟨k, hk, _⟩ => absurd hk (Nat.not_lt_zero k)⟩, rfl⟩
  | n + 1, i, h, e, s => by
    by_cases c : ∃ k, k < i ∧ F k = t ∧ S k = S i
    · obtain ⟨k, hk, ek, sk⟩ := c
      obtain ⟨j, hj, gj, sj⟩ := gv_first n k (by omega) ek (by rw [sk]; exact s)
      exact ⟨j, by omega, gj, sj.trans sk⟩
    · exact ⟨i, Nat.le_refl _, gv_iff.mpr ⟨e, s, c⟩, rfl⟩
theorem syL_mem {s c : Int64} {p q : Nat} : ∀ {i : Nat}, (c, q) ∈ syL F S s p i ↔ q = p ∧ ∃ k, k < i ∧ gvB F S k s = true ∧ S k = c
  | 0 => by
    constructor
    · intro h; exact absurd h (List.not_mem_nil)
    · rintro ⟨-, k, hk, -⟩; omega
  | i + 1 => by
    rw [syL, List.mem_append, syL_mem]
    constructor
    · rintro (⟨e, k, hk, h⟩ | h)
      · exact ⟨e, k, by omega, h⟩
      · by_cases g : gvB F S i s = true
        · rw [if_pos g, List.mem_singleton, Prod.mk.injEq] at h
          exact ⟨h.2, i, by omega, g, h.1.symm⟩
        · rw [if_neg g] at h; exact absurd h (List.not_mem_nil)
    · rintro ⟨e, k, hk, g, h⟩
      rcases Nat.lt_or_ge k i with z | z
      · exact Or.inl ⟨e, k, z, g, h⟩
      · obtain rfl : k = i := by omega
        refine Or.inr ?_
        rw [if_pos g, List.mem_singleton, Prod.mk.injEq]
        exact ⟨h.symm, e⟩
theorem syL_len {s : Int64} {p : Nat} : ∀ i : Nat, (syL F S s p i).length ≤ i
  | 0 => Nat.le_refl _
  | i + 1 => by
    have := syL_len (s := s) (p := p) i
    rw [syL, List.length_append]
    by_cases g : gvB F S i s = true
    · rw [if_pos g]; show _ + 1 ≤ _; omega
    · rw [if_neg g]; show _ + 0 ≤ _; omega
theorem tkL_len : ∀ n : Nat, (tkL F S yn stp st n).length ≤ (yn + 1) * n
  | 0 => Nat.le_refl _
  | n + 1 => by
    have h1 := tkL_len n
    have h2 := syL_len (F := F) (S := S) (s := st n) (p := n) yn
    rw [tkL, List.length_append, Nat.mul_succ]
    by_cases g : stp (st n) = true
    · rw [if_pos g]; show _ + 0 ≤ _; omega
    · rw [if_neg g, List.length_cons]; omega
theorem tkL_mem {c : Int64} {q : Nat} : ∀ {n : Nat}, (c, q) ∈ tkL F S yn stp st n ↔ q < n ∧ stp (st q) = false ∧ (c = st q ∨ ∃ k, k < yn ∧ F k = st q ∧ S k = c)
  | 0 => by
    constructor
    · intro h; exact absurd h (List.not_mem_nil)
    · rintro ⟨hk, -⟩; omega
  | n + 1 => by
    rw [tkL, List.mem_append, tkL_mem]
    constructor
    · rintro (⟨e, h⟩ | h)
      · exact ⟨by omega, h⟩
      · by_cases g : stp (st n) = true
        · rw [if_pos g] at h; exact absurd h (List.not_mem_nil)
        · rw [if_neg g, List.mem_cons, syL_mem, Prod.mk.injEq] at h
          rcases h with ⟨h1, h2⟩ | ⟨h2, k, hk, gk, sk⟩
          · subst h2; exact ⟨by omega, Bool.eq_false_iff.mpr g, Or.inl h1⟩
          · subst h2; exact ⟨by omega, Bool.eq_false_iff.mpr g, Or.inr ⟨k, hk, (gv_iff.mp gk).1, sk⟩⟩
    · rintro ⟨hq, g, h⟩
      rcases Nat.lt_or_ge q n with z | z
      · exact Or.inl ⟨z, g, h⟩
      · obtain rfl : q = n := by omega
        refine Or.inr ?_
        rw [if_neg (by rw [g]; decide), List.mem_cons, syL_mem, Prod.mk.injEq]
        rcases h with h | ⟨k, hk, fk, sk⟩
        · exact Or.inl ⟨h, rfl⟩
        · by_cases e : c = st q
          · exact Or.inl ⟨e, rfl⟩
          · obtain ⟨j, hj, gj, sj⟩ := gv_first (F := F) (S := S) k k (Nat.le_refl _) fk (by rw [sk]; exact e)
            exact Or.inr ⟨rfl, j, by omega, gj, sj.trans sk⟩
theorem tkL_pl {n : Nat} {x : Int64 × Nat} (h : x ∈ tkL F S yn stp st n) : x.2 < n := (tkL_mem (c := x.1) (q := x.2).mp h).1
/-- whether a synonym is there already -/
theorem sy_test {l : List (Int64 × Nat)} {s : Int64} {p i : Nat} (hl : ∀ x, x ∈ l → x.2 < p) (hi : F i = s) : (S i, p) ∈ l ++ (s, p) :: syL F S s p i ↔ ¬ gvB F S i s = true := by
  rw [List.mem_append, List.mem_cons, syL_mem, Prod.mk.injEq, gv_iff]
  constructor
  · rintro (h | ⟨h, -⟩ | ⟨-, k, hk, gk, sk⟩)
    · exact absurd (hl _ h) (Nat.lt_irrefl p)
    · exact fun z => z.2.1 h
    · exact fun z => z.2.2 ⟨k, hk, (gv_iff.mp gk).1, sk⟩
  · intro h
    by_cases e : S i = s
    · exact Or.inr (Or.inl ⟨e, rfl⟩)
    · by_cases c : ∃ k, k < i ∧ F k = s ∧ S k = S i
      · obtain ⟨k, hk, fk, sk⟩ := c
        obtain ⟨j, hj, gj, sj⟩ := gv_first (F := F) (S := S) k k (Nat.le_refl _) fk (by rw [sk]; exact e)
        exact Or.inr (Or.inr ⟨rfl, j, by omega, gj, sj.trans sk⟩)
      · exact absurd ⟨hi, e, c⟩ h
end TL
