/-! the stem of a word, on both sides -/
section ST
variable {v : Nat → Int32} {f : Nat → Nat → Int32} {g : Nat → Nat → Int64} {S : cS} {dp : Nat}
/-- the class's test of an ending is the reference's, taken sign by sign -/
theorem eW_end {w n x b : Nat} (hx : ¬ x = 32) (hb : b + 1 ≤ n) : eW w n x (b + 1) = endW w n x b := by
  unfold eW endW
  rw [decide_eq_false hx, Bool.false_or, decide_eq_true (show b < n by omega), Bool.true_and, show n - (b + 1) = n - 1 - b by omega]
theorem eW_sp {w n b : Nat} : eW w n 32 b = true := by unfold eW; rfl
theorem endW_last {w n x : Nat} (h : 1 ≤ n) : (dg w (n - 1) == figN x) = endW w n x 0 := by
  unfold endW
  rw [decide_eq_true (show 0 < n by omega), Bool.true_and, Nat.sub_zero]
theorem q_stemOf {Q : Int64 → cS → Prop} {w : Nat} (hw : w < 2 ^ 63) (h : Q (lN (stW w)) S) : k_X9_stemOf Q dp (lN w) S := by
  have hl := lnW_le w
  have t3 : ¬ (6 ≤ lnW w ∧ endW w (lnW w) 103 0 = true ∧ endW w (lnW w) 110 1 = true ∧ endW w (lnW w) 105 2 = true) → ¬ (5 ≤ lnW w ∧ endW w (lnW w) 100 0 = true ∧ endW w (lnW w) 101 1 = true) → k_X9_stemOf_60 Q dp (lN w) (nI (lnW w)) S := by
    intro n1 n2
    have e4 : ¬ (4 ≤ lnW w ∧ endW w (lnW w) 115 0 = true ∧ ¬ endW w (lnW w) 115 1 = true) → k_X9_stemOf_101 Q dp (lN w) S := by
      intro n3
      unfold k_X9_stemOf_101
      rw [stW_4 n1 n2 n3] at h; exact h
    unfold k_X9_stemOf_60
    refine ⟨fun c => e4 (fun q => absurd ((nI_ltI (by omega) (by decide)).mp c) (by omega)), fun c => ?_⟩
    have c : 4 ≤ lnW w := by have := mt (nI_ltI (by omega) (by decide)).mpr c; omega
    refine q_isEnding hw hl (by omega) (by decide) (by decide) (by decide) ?_
    rw [eW_sp, eW_sp, Bool.true_and, Bool.true_and, endW_last (by omega)]
    refine ⟨fun c1 => e4 (fun q => by rw [bI_0.mp c1] at q; exact absurd q.2.1 (by decide)), fun c1 => ?_⟩
    refine q_isEnding hw hl (by omega) (by decide) (by decide) (by decide) ?_
    rw [eW_sp, Bool.true_and, eW_end (b := 1) (by decide) (by omega), endW_last (by omega), bI_n.mp c1, Bool.and_true]
    refine ⟨fun c2 => e4 (fun q => q.2.2 (bI_n.mp c2)), fun c2 => ?_⟩
    rw [pk_sub (show 1 ≤ lnW w by omega)]
    refine q_cutTo hw (by omega) (by omega) ?_
    rw [stW_3 n1 n2 c (bI_n.mp c1) (bI_0.mp c2)] at h; exact h
  have t2 : ¬ (6 ≤ lnW w ∧ endW w (lnW w) 103 0 = true ∧ endW w (lnW w) 110 1 = true ∧ endW w (lnW w) 105 2 = true) → k_X9_stemOf_33 Q dp (lN w) (nI (lnW w)) S := by
    intro n1
    unfold k_X9_stemOf_33
    refine ⟨fun c => t3 n1 (fun q => absurd ((nI_ltI (by omega) (by decide)).mp c) (by omega)), fun c => ?_⟩
    have c : 5 ≤ lnW w := by have := mt (nI_ltI (by omega) (by decide)).mpr c; omega
    refine q_isEnding hw hl (by omega) (by decide) (by decide) (by decide) ?_
    rw [eW_sp, Bool.true_and, eW_end (b := 1) (by decide) (by omega), endW_last (by omega)]
    refine ⟨fun c1 => t3 n1 (fun q => by rw [q.2.1, q.2.2] at c1; exact absurd c1 (by decide)), fun c1 => ?_⟩
    have c1 := (Bool.and_eq_true _ _).mp (bI_n.mp c1)
    rw [pk_sub (show 2 ≤ lnW w by omega)]
    refine q_cutTo hw (by omega) (by omega) ?_
    rw [stW_2 n1 c c1.2 c1.1] at h; exact h
  unfold k_X9_stemOf
  refine q_lengthOf hw ⟨fun c => t2 (fun q => absurd ((nI_ltI (by omega) (by decide)).mp c) (by omega)), fun c => ?_⟩
  have c : 6 ≤ lnW w := by have := mt (nI_ltI (by omega) (by decide)).mpr c; omega
  refine q_isEnding hw hl (by omega) (by decide) (by decide) (by decide) ?_
  rw [eW_end (b := 2) (by decide) (by omega), eW_end (b := 1) (by decide) (by omega), endW_last (by omega)]
  refine ⟨fun c1 => t2 (fun q => by rw [q.2.1, q.2.2.1, q.2.2.2] at c1; exact absurd c1 (by decide)), fun c1 => ?_⟩
  have c1 := (Bool.and_eq_true _ _).mp (bI_n.mp c1)
  have c2 := (Bool.and_eq_true _ _).mp c1.2
  rw [pk_sub (show 3 ≤ lnW w by omega)]
  refine q_cutTo hw (by omega) (by omega) ?_
  rw [stW_1 c c2.2 c2.1 c1.1] at h; exact h
end ST
