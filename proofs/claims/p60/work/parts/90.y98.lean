/-! the reference: questions about the index; whether a token is at a place -/
theorem inB_len {x : Int32} {n : Nat} (hn : n < 2 ^ 31) : (inB x (nI 0) (nI n - nI 1) = true → ∃ k, k < n ∧ x = nI k) ∧ ∀ k, k < n → x = nI k → inB x (nI 0) (nI n - nI 1) = true := by
  cases n with
  | zero =>
    refine ⟨fun h => ?_, fun k hk => absurd hk (Nat.not_lt_zero k)⟩
    unfold inB at h
    rw [Bool.and_eq_true, decide_eq_true_iff, decide_eq_true_iff] at h
    have h1 : (0 : Int) ≤ x.toInt := by
      have := Int32.le_iff_toInt_le.mp h.1
      exact this
    have h2 : x.toInt ≤ (-1 : Int) := by
      have := Int32.le_iff_toInt_le.mp h.2
      exact this
    omega
  | succ m =>
    have e : nI (m + 1) - nI 1 = nI m := by rw [pk_sub (by omega), Nat.add_sub_cancel]
    rw [e]
    refine ⟨fun h => ?_, fun k hk hx => ?_⟩
    · obtain ⟨k, hk, hx⟩ := inB_of (by omega) h
      exact ⟨k, by omega, hx⟩
    · rw [hx, inB_N (by omega) (by omega) (by omega)]
      simp [inN]
      omega
section QN
variable {v v' : Nat → Int32} {f f' : Nat → Nat → Int32} {g g' : Nat → Nat → Int64} {l : LGt} {made dn op : Nat} {sg : Nat → List Dc} {hd : Nat → Nat → Nat} {ids : List Nat} {lv : Nat → Nat → Bool} {off : Bool}
/-- the language in rows -/
def rLg (v : Nat → Int32) (g : Nat → Nat → Int64) (l : LGt) : Prop := (g 5 = l.1 ∧ g 6 = l.2.1) ∧ (v 9 = nI l.2.2.1 ∧ l.2.2.1 ≤ 10) ∧ ∃ ks, (v 6 = nI ks ∧ ks ≤ 10) ∧ l.2.2.2 = fun c => anyB (fun j => g 4 j == c) ks
/-- whether a stem gives a token -/
def hsB (l : LGt) (s c : Int64) : Bool := (decide (s = c) || anyB (fun k => decide (l.1 k = s) && decide (l.2.1 k = c)) l.2.2.1) && !l.2.2.2 s
theorem hsB_mem {st : Nat → Int64} {n p : Nat} {c : Int64} : (c, p) ∈ tkG l st n ↔ p < n ∧ hsB l (st p) c = true := by
  unfold tkG hsB
  rw [tkL_mem, Bool.and_eq_true, Bool.or_eq_true, decide_eq_true_iff, anyB_ex, Bool.not_eq_true']
  refine and_congr Iff.rfl ?_
  constructor
  · rintro ⟨h1, h2⟩
    refine ⟨?_, h1⟩
    rcases h2 with h2 | ⟨k, k1, k2, k3⟩
    · exact Or.inl h2.symm
    · exact Or.inr ⟨k, k1, by rw [Bool.and_eq_true, decide_eq_true_iff, decide_eq_true_iff]; exact ⟨k2, k3⟩⟩
  · rintro ⟨h2, h1⟩
    refine ⟨h1, ?_⟩
    rcases h2 with h2 | ⟨k, k1, k2⟩
    · exact Or.inl h2.symm
    · rw [Bool.and_eq_true, decide_eq_true_iff, decide_eq_true_iff] at k2
      exact Or.inr ⟨k, k1, k2.1, k2.2⟩
end QN
