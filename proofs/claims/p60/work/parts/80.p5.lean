/-! the reference: small questions and guards -/
/-- whether x is a place below n -/
def plB (x : Int32) (n : Nat) : Bool := inB x (nI 0) (nI n - nI 1)
theorem plB_t {x : Int32} {n : Nat} (hn : n < 2 ^ 30) (h : plB x n = true) : ∃ j, j < n ∧ x = nI j := by
  unfold plB inB at h
  rw [Bool.and_eq_true] at h
  obtain ⟨h1, h2⟩ := h
  have h1 := of_decide_eq_true h1
  have h2 := of_decide_eq_true h2
  rw [Int32.le_iff_toInt_le, nI_toInt (by omega)] at h1
  rw [Int32.le_iff_toInt_le, pk_sub_toInt hn (by omega)] at h2
  refine ⟨x.toInt.toNat, by omega, ?_⟩
  apply Int32.toInt_inj.mp
  rw [nI_toInt (by omega)]
  omega
theorem plB_N {j n : Nat} (hj : j < 2 ^ 30) (hn : n < 2 ^ 30) : plB (nI j) n = decide (j < n) := by
  unfold plB inB
  rw [decide_eq_true (nI_le (Nat.zero_le j) (by omega)), Bool.true_and]
  have e : (nI j ≤ nI n - nI 1) ↔ j < n := by
    rw [Int32.le_iff_toInt_le, pk_sub_toInt hn (by omega), nI_toInt (by omega)]
    omega
  simp [e]
/-- the last place below n with q, else -1 -/
def lsI (q : Nat → Bool) : Nat → Int32
  | 0 => -1
  | n + 1 => if q n then nI n else lsI q n
theorem lsI_t {q : Nat → Bool} {n : Nat} (h : q n = true) : lsI q (n + 1) = nI n := by rw [lsI, if_pos h]
theorem lsI_f {q : Nat → Bool} {n : Nat} (h : q n = false) : lsI q (n + 1) = lsI q n := by rw [lsI, if_neg (by rw [h]; decide)]
