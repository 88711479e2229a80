/-! one step of the law's loop -/
section LHA
variable {S T : cS} {dp x k cd dd i L t : Nat} {ar : Nat → Nat} {Q : Int32 → cS → Prop} {R116 : Nat → Nat → Nat → Nat → Nat → Nat → Nat → Nat → Nat → Nat → Nat → Nat → Nat → Nat → Nat → Nat → Nat → Int32 → Int32 → Nat → Nat → cS → Prop}
/-- what is asked of the next step -/
def nxH (R116 : Nat → Nat → Nat → Nat → Nat → Nat → Nat → Nat → Nat → Nat → Nat → Nat → Nat → Nat → Nat → Nat → Nat → Int32 → Int32 → Nat → Nat → cS → Prop) (dp x i : Nat) (ar : Nat → Nat) : Prop := ∀ T cd dd, R6 (2 * (i + 1) + (i + 1) / 4) T dp x ar cd dd → R116 x (ar 0) (ar 1) (ar 2) (ar 3) (ar 4) (ar 5) (ar 6) (ar 7) (ar 8) (ar 9) (ar 10) (ar 11) (ar 12) (ar 13) (ar 14) (ar 15) (nI 1) (nI (i + 1)) cd dd T
theorem R6_up {k' : Nat} (h : R6 k S dp x ar cd dd) (hk : k ≤ k') : R6 k' S dp x ar cd dd := by
  obtain ⟨d, rfl⟩ : ∃ d, k' = k + d := ⟨k' - k, by omega⟩
  clear hk
  induction d with
  | zero => exact h
  | succ d ih => exact R6_k (by omega) (by omega) ih
theorem q_796 (h : R6 (2 * (i + 1) + i / 4) S dp x ar cd dd) (hi : i < 110) (hN : nxH R116 dp x i ar) : ks_L_holds_796 Q dp 500000 5000000 L R116 x (ar 0) (ar 1) (ar 2) (ar 3) (ar 4) (ar 5) (ar 6) (ar 7) (ar 8) (ar 9) (ar 10) (ar 11) (ar 12) (ar 13) (ar 14) (ar 15) (bI true) (nI i) cd dd S := by
  have h4 : i % 4 < 4 := Nat.mod_lt _ (by decide)
  unfold ks_L_holds_796
  rw [i_mod (by omega) (by decide) (by decide)]
  refine ⟨fun c => absurd c (by decide), fun _ => ⟨fun _ => ?_, fun c => ?_⟩⟩
  · unfold ks_L_holds_840
    rintro _ rfl
    rw [nI_add]
    exact hN S cd dd (R6_up h (by omega))
  · have c3 : ¬ i % 4 < 3 := fun z => c ((nI_ltI (by omega) (by decide)).mpr z)
    obtain ⟨m1, m2, b1, b2, hq⟩ := q_index (Q := fun m1 m2 r T => (r = 0 → ks_L_holds_839 Q dp 500000 5000000 L R116 x (ar 0) (ar 1) (ar 2) (ar 3) (ar 4) (ar 5) (ar 6) (ar 7) (ar 8) (ar 9) (ar 10) (ar 11) (ar 12) (ar 13) (ar 14) (ar 15) (nI i) (cd + m1) (dd + m2) T) ∧ (¬ r = 0 → ks_L_holds_840 Q dp 500000 5000000 L R116 x (ar 0) (ar 1) (ar 2) (ar 3) (ar 4) (ar 5) (ar 6) (ar 7) (ar 8) (ar 9) (ar 10) (ar 11) (ar 12) (ar 13) (ar 14) (ar 15) (nI i) (nI 1) (cd + m1) (dd + m2) T)) h (by omega) (fun m1 m2 T _ _ hT => ⟨fun z => absurd z (by decide), fun _ => by
      unfold ks_L_holds_840
      rintro _ rfl
      rw [nI_add]
      exact hN T _ _ (R6_up hT (by omega))⟩)
    exact ⟨m1, m2, b1, b2, hq⟩
theorem q_587 (h : R6 (2 * i + i / 4) S dp x ar cd dd) (hi : i < 110) (hN : nxH R116 dp x i ar) : ks_L_holds_587 Q dp 500000 5000000 L R116 x (ar 0) (ar 1) (ar 2) (ar 3) (ar 4) (ar 5) (ar 6) (ar 7) (ar 8) (ar 9) (ar 10) (ar 11) (ar 12) (ar 13) (ar 14) (ar 15) (nI i) cd dd S := by
  unfold ks_L_holds_587
  exact q_opens h (by omega) (fun m1 m2 T _ _ hT => q_796 (R6_up hT (by omega)) hi hN)
end LHA
