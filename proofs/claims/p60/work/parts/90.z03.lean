/-! the reference: the numbers of postings; bytes -/
theorem bit_hs {l : LGt} {st : Nat → Int64} {K p : Nat} {c : Int64} : (pmk c (tkG l st K)).testBit p = (decide (p < K) && hsB l (st p) c) := by
  rw [Bool.eq_iff_iff, pmk_tb, hsB_mem, Bool.and_eq_true, decide_eq_true_iff]
