/-! the reference: stop words, synonyms, texts, columns -/
theorem rdS_lt (P : Nat → Nat) : ∀ k, (∀ j, (rdS P k).2.2 j + 1 ≤ 37 ^ 12) ∧ (0 < (rdS P k).1 → (rdS P k).2.2 ((rdS P k).2.1 - 1) + 37 ^ (12 - min (rdS P k).1 12) ≤ 37 ^ 12)
  | 0 => by simp [rdS]
  | k + 1 => by
    obtain ⟨h1, h2⟩ := rdS_lt P k
    have hd := figN_lt (P k)
    rcases Nat.eq_zero_or_pos (figN (P k)) with h | h
    · rw [rdS_0 h]
      exact ⟨h1, fun q => absurd q (by omega)⟩
    · rcases Nat.eq_zero_or_pos (rdS P k).1 with q | q
      · rw [rdS_N h q]
        dsimp only
        refine ⟨fun j => ?_, fun _ => ?_⟩
        · by_cases e : j = (rdS P k).2.1
          · rw [upR_e e]; omega
          · rw [upR_n e]; exact h1 j
        · rw [upR_e (by omega), show 12 - min 1 12 = 11 from rfl]; omega
      · rw [rdS_I h q]
        dsimp only
        have h3 := h2 q
        by_cases hs : (rdS P k).1 < 12
        · rw [if_pos hs]
          have e1 : 37 ^ (12 - min (rdS P k).1 12) = 37 * 37 ^ (11 - (rdS P k).1) := by
            rw [show 12 - min (rdS P k).1 12 = 11 - (rdS P k).1 + 1 by omega, Nat.pow_succ, Nat.mul_comm]
          have e2 : 37 ^ (12 - min ((rdS P k).1 + 1) 12) = 37 ^ (11 - (rdS P k).1) := by
            rw [show 12 - min ((rdS P k).1 + 1) 12 = 11 - (rdS P k).1 by omega]
          have e3 : figN (P k) * 37 ^ (11 - (rdS P k).1) ≤ 36 * 37 ^ (11 - (rdS P k).1) := Nat.mul_le_mul_right _ (by omega)
          have e4 := p37_pos (11 - (rdS P k).1)
          rw [e1] at h3
          refine ⟨fun j => ?_, fun _ => ?_⟩
          · by_cases e : j = (rdS P k).2.1 - 1
            · rw [upR_e e]; omega
            · rw [upR_n e]; exact h1 j
          · rw [upR_e rfl, e2]; omega
        · rw [if_neg hs]
          refine ⟨fun j => ?_, fun _ => ?_⟩
          · by_cases e : j = (rdS P k).2.1 - 1
            · rw [upR_e e, ← e]; exact h1 j
            · rw [upR_n e]; exact h1 j
          · rw [upR_e rfl, show min ((rdS P k).1 + 1) 12 = min (rdS P k).1 12 by omega]; exact h3
theorem wdW_lt (P : Nat → Nat) (n j : Nat) : wdW P n j < 37 ^ 12 := (rdS_lt P n).1 j
theorem wdW_63 (P : Nat → Nat) (n j : Nat) : wdW P n j < 2 ^ 63 := Nat.lt_trans (wdW_lt P n j) (by decide)
theorem mS_inj {v v' : Nat → Int32} {f f' : Nat → Nat → Int32} {g g' : Nat → Nat → Int64} (h : (v, f, g) = (v', f', g')) : v' = v ∧ f' = f ∧ g' = g := by
  obtain ⟨h1, h2⟩ := Prod.mk.inj h
  obtain ⟨h2, h3⟩ := Prod.mk.inj h2
  exact ⟨h1.symm, h2.symm, h3.symm⟩
/-- the stem of the j-th word of the first n signs -/
noncomputable def wdT (P : Nat → Nat) (n j : Nat) : Nat := stW (wdW P n j)
theorem wdT_63 (P : Nat → Nat) (n j : Nat) : wdT P n j < 2 ^ 63 := Nat.lt_of_le_of_lt (stW_le _) (wdW_63 P n j)
