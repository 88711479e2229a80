/-! the reference: marks, their count, strength -/
/-- whether a place counts for a leaf -/
noncomputable def mkB (l : LGt) (d : Nd) (st : Nat → Int64) (K p : Nat) : Bool := if nK d ≤ 2 then (pmk (tkC d 0) (tkG l st K)).testBit p && cAt d (fun t => pmk (tkC d t) (tkG l st K)) p else ftB l d (st p)
theorem mkO_cp {l : LGt} {d : Nd} {e : Dc} {st : Nat → Int64} {K : Nat} (hK : K ≤ 20) (h : dT e (nF d) = tkG l st K) : mkO e d = cpF (mkB l d st K) K := by
  apply Nat.eq_of_testBit_eq
  intro p
  rw [cpF_tb]
  unfold mkO mkB
  rw [h]
  by_cases c : nK d ≤ 2
  · rw [if_pos c, if_pos c]
    unfold cpN
    rw [cpF_tb]
    rcases Nat.lt_or_ge p K with z | z
    · rw [decide_eq_true z, decide_eq_true (show p < 20 by omega)]
    · rw [decide_eq_false (show ¬ p < K by omega), tb_out z, Bool.false_and, Bool.and_false]; rfl
  · rw [if_neg c, if_neg c, Bool.eq_iff_iff, tdK_tb, Bool.and_eq_true, decide_eq_true_iff]
    unfold ftB
    constructor
    · rintro ⟨w, h1, h2⟩
      obtain ⟨h3, h4⟩ := hsB_mem.mp h2
      unfold hsB at h4
      rw [Bool.and_eq_true, Bool.or_eq_true] at h4
      obtain ⟨h5, h6⟩ := h4
      refine ⟨h3, ?_⟩
      rw [h6, Bool.and_true, Bool.or_eq_true]
      rcases h5 with h5 | h5
      · rw [of_decide_eq_true h5]; exact Or.inl h1
      · obtain ⟨i, hi, h7⟩ := anyB_ex.mp h5
        rw [Bool.and_eq_true, decide_eq_true_iff, decide_eq_true_iff] at h7
        refine Or.inr (anyB_ex.mpr ⟨i, hi, ?_⟩)
        rw [Bool.and_eq_true, decide_eq_true_iff]
        exact ⟨h7.1, by rw [h7.2]; exact h1⟩
    · rintro ⟨h3, h4⟩
      rw [Bool.and_eq_true, Bool.or_eq_true] at h4
      obtain ⟨h5, h6⟩ := h4
      have mk : ∀ w, (decide (st p = w) || anyB (fun k => decide (l.1 k = st p) && decide (l.2.1 k = w)) l.2.2.1) = true → (w, p) ∈ tkG l st K := fun w hw => by
        refine hsB_mem.mpr ⟨h3, ?_⟩
        unfold hsB
        rw [hw, h6]; rfl
      rcases h5 with h5 | h5
      · exact ⟨st p, h5, mk _ (by rw [decide_eq_true rfl]; rfl)⟩
      · obtain ⟨i, hi, h7⟩ := anyB_ex.mp h5
        rw [Bool.and_eq_true, decide_eq_true_iff] at h7
        refine ⟨l.2.1 i, h7.2, mk _ ?_⟩
        rw [Bool.or_eq_true]
        refine Or.inr (anyB_ex.mpr ⟨i, hi, ?_⟩)
        rw [Bool.and_eq_true, decide_eq_true_iff]
        exact ⟨h7.1, decide_eq_true rfl⟩
/-- what a node keeps besides -/
def ndG (d : Nd) : Prop := (nK d = 0 → (nT d).length = 1) ∧ tkM d ∧ (∀ x, x ∈ nT d → x.2 < 20) ∧ (nK d = 7 → nP d = 2)
theorem pcN_sh (m : Nat) : ∀ n, pcN m (n + 1) = m % 2 + pcN (m / 2) n
  | 0 => by
    rw [pcN, pcN, pcN, Nat.testBit_zero]
    rcases Nat.mod_two_eq_zero_or_one m with e | e <;> rw [e] <;> rfl
  | n + 1 => by
    rw [pcN, pcN_sh m n, pcN, Nat.testBit_succ]
    omega
theorem pcN_z : ∀ n : Nat, pcN 0 n = 0
  | 0 => rfl
  | n + 1 => by rw [pcN, pcN_z n, Nat.zero_testBit]; rfl
theorem pcN_low : ∀ {n m : Nat}, 0 < m → m < 2 ^ n → pcN (m &&& (m - 1)) n + 1 = pcN m n
  | 0, m, h1, h2 => by rw [Nat.pow_zero] at h2; omega
  | n + 1, m, h1, h2 => by
    have e : m = 2 * (m / 2) + m % 2 := by omega
    obtain ⟨q, hq⟩ : ∃ q, q = m / 2 := ⟨_, rfl⟩
    have q2 : q < 2 ^ n := by rw [Nat.pow_succ] at h2; omega
    rw [pcN_sh, pcN_sh]
    rcases Nat.mod_two_eq_zero_or_one m with c | c
    · have em : m = 2 ^ 1 * q + 0 := by omega
      have em1 : m - 1 = 2 ^ 1 * (q - 1) + 1 := by omega
      have la : m &&& (m - 1) = 2 ^ 1 * (q &&& (q - 1)) + (0 &&& 1) := by
        rw [em1]
        conv => lhs; rw [em]
        exact land_split (by decide) (by decide)
      rw [la, Nat.zero_and, c, ← hq, show (2 ^ 1 * (q &&& (q - 1)) + 0) % 2 = 0 by omega, show (2 ^ 1 * (q &&& (q - 1)) + 0) / 2 = q &&& (q - 1) by omega]
      have := pcN_low (n := n) (m := q) (by omega) q2
      omega
    · have em : m = 2 ^ 1 * q + 1 := by omega
      have em1 : m - 1 = 2 ^ 1 * q + 0 := by omega
      have la : m &&& (m - 1) = 2 ^ 1 * (q &&& q) + (1 &&& 0) := by
        rw [em1]
        conv => lhs; rw [em]
        exact land_split (by decide) (by decide)
      rw [la, Nat.and_self, Nat.and_zero, c, ← hq, show (2 ^ 1 * q + 0) % 2 = 0 by omega, show (2 ^ 1 * q + 0) / 2 = q by omega]
      omega
theorem pcN_0 {m n : Nat} (h : m < 2 ^ n) : pcN m n = 0 ↔ m = 0 := by
  constructor
  · intro e
    apply Nat.eq_of_testBit_eq
    intro p
    rw [Nat.zero_testBit]
    rcases Nat.lt_or_ge p n with z | z
    · cases hb : m.testBit p with
      | false => rfl
      | true => have := pcN_pos hb z; omega
    · exact Nat.testBit_lt_two_pow (Nat.lt_of_lt_of_le h (Nat.pow_le_pow_right (by decide) z))
  · rintro rfl; exact pcN_z n
