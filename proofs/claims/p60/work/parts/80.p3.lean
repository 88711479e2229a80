/-! the reference: the words of the pad -/
/-- after k signs: how many word signs stand behind each other, how many words there are, and the words -/
def rdS (P : Nat → Nat) : Nat → Nat × Nat × (Nat → Nat)
  | 0 => (0, 0, fun _ => 0)
  | k + 1 => if figN (P k) = 0 then (0, (rdS P k).2.1, (rdS P k).2.2) else if (rdS P k).1 = 0 then (1, (rdS P k).2.1 + 1, upR (rdS P k).2.2 (rdS P k).2.1 (figN (P k) * 37 ^ 11)) else ((rdS P k).1 + 1, (rdS P k).2.1, upR (rdS P k).2.2 ((rdS P k).2.1 - 1) ((rdS P k).2.2 ((rdS P k).2.1 - 1) + if (rdS P k).1 < 12 then figN (P k) * 37 ^ (11 - (rdS P k).1) else 0))
theorem rdS_0 {P : Nat → Nat} {k : Nat} (h : figN (P k) = 0) : rdS P (k + 1) = (0, (rdS P k).2.1, (rdS P k).2.2) := by
  rw [rdS, if_pos h]
theorem rdS_N {P : Nat → Nat} {k : Nat} (h : 0 < figN (P k)) (hs : (rdS P k).1 = 0) : rdS P (k + 1) = (1, (rdS P k).2.1 + 1, upR (rdS P k).2.2 (rdS P k).2.1 (figN (P k) * 37 ^ 11)) := by
  rw [rdS, if_neg (by omega), if_pos hs]
theorem rdS_I {P : Nat → Nat} {k : Nat} (h : 0 < figN (P k)) (hs : 0 < (rdS P k).1) : rdS P (k + 1) = ((rdS P k).1 + 1, (rdS P k).2.1, upR (rdS P k).2.2 ((rdS P k).2.1 - 1) ((rdS P k).2.2 ((rdS P k).2.1 - 1) + if (rdS P k).1 < 12 then figN (P k) * 37 ^ (11 - (rdS P k).1) else 0)) := by
  rw [rdS, if_neg (by omega), if_neg (by omega)]
theorem rdS_inv (P : Nat → Nat) : ∀ k, (rdS P k).1 ≤ k ∧ (0 < (rdS P k).1 → 2 * (rdS P k).2.1 ≤ k + 1 ∧ 0 < (rdS P k).2.1) ∧ ((rdS P k).1 = 0 → 2 * (rdS P k).2.1 ≤ k)
  | 0 => by simp [rdS]
  | k + 1 => by
    obtain ⟨h1, h2, h3⟩ := rdS_inv P k
    rcases Nat.eq_zero_or_pos (figN (P k)) with h | h
    · rw [rdS_0 h]
      dsimp only
      refine ⟨by omega, fun q => absurd q (by omega), fun _ => ?_⟩
      rcases Nat.eq_zero_or_pos (rdS P k).1 with q | q
      · have := h3 q; omega
      · have := h2 q; omega
    · rcases Nat.eq_zero_or_pos (rdS P k).1 with q | q
      · rw [rdS_N h q]
        dsimp only
        have := h3 q
        exact ⟨by omega, fun _ => ⟨by omega, by omega⟩, fun z => absurd z (by omega)⟩
      · rw [rdS_I h q]
        dsimp only
        have := h2 q
        exact ⟨by omega, fun _ => ⟨by omega, by omega⟩, fun z => absurd z (by omega)⟩
/-- how many words the first n signs have, and the words -/
def wdC (P : Nat → Nat) (n : Nat) : Nat := (rdS P n).2.1
def wdW (P : Nat → Nat) (n : Nat) : Nat → Nat := (rdS P n).2.2
theorem wdC_le (P : Nat → Nat) (n : Nat) : 2 * wdC P n ≤ n + 1 := by
  obtain ⟨h1, h2, h3⟩ := rdS_inv P n
  unfold wdC
  rcases Nat.eq_zero_or_pos (rdS P n).1 with q | q
  · have := h3 q; omega
  · have := (h2 q).1; omega
theorem rd_rN {W : Nat → Nat} {r : Nat → Int64} {c x : Nat} (h : ∀ j, j < c → r j = lN (W j)) : ∀ j, j < c + 1 → upR (upR r c 0) (c + 1 - 1) (lN (0 + x)) j = lN (upR W c x j) := by
  intro j hj
  rcases Nat.lt_or_ge j c with q | q
  · rw [upR_n (by omega), upR_n (by omega), upR_n (by omega), h j q]
  · rw [upR_e (by omega), upR_e (by omega), Nat.zero_add]
theorem rd_rI {W : Nat → Nat} {r : Nat → Int64} {c x : Nat} (h : ∀ j, j < c → r j = lN (W j)) : ∀ j, j < c → upR r (c - 1) (lN (W (c - 1) + x)) j = lN (upR W (c - 1) (W (c - 1) + x) j) := by
  intro j hj
  by_cases q : j = c - 1
  · rw [upR_e q, upR_e q]
  · rw [upR_n q, upR_n q, h j hj]
