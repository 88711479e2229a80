/-! the nine queries are well made -/
section LZU
variable {made l : Nat} {sl : Nat → List Nat} {sn : List (Nat × Vw)}
theorem gp_le {l : List (Int64 × Nat)} {c : Nat} (h : ∀ x, x ∈ l → x.2 ≤ c) (i : Nat) : gpT l i ≤ c := by
  unfold gpT
  split
  · exact Nat.zero_le _
  · refine Nat.le_trans (Nat.sub_le _ _) ?_
    rw [List.getD_eq_getElem?_getD]
    cases e : l[i]? with
    | none => exact Nat.zero_le _
    | some x => exact h x (List.mem_of_getElem? e)
theorem tc_ok {f t : Nat} : tkOk ((0, f, 0, 0), false, [(tcN t, 0)], [], 0) := ⟨by show (0 : Nat) ≤ 2; decide, by show (1 : Nat) ≤ 1; decide, by show (1 : Nat) ≤ 6; decide, by show (0 : Nat) ≤ 20; decide, fun h => absurd h (by show ¬ (0 : Nat) = 2; decide), fun i => gp_le (fun x hx => by
  have hx : x ∈ [(tcN t, 0)] := hx
  rw [List.mem_singleton.mp hx]
  exact Nat.zero_le _) i⟩
theorem lf_ok (hl : l < 9) : nLf (ndL l) = true ∧ nF (ndL l) < 2 ∧ (tkOk (ndL l) ∨ tlOk (ndL l)) := by
  have : l = 0 ∨ l = 1 ∨ l = 2 ∨ l = 3 ∨ l = 4 ∨ l = 5 ∨ l = 6 ∨ l = 7 ∨ l = 8 := by omega
  rcases this with rfl | rfl | rfl | rfl | rfl | rfl | rfl | rfl | rfl
  · exact ⟨rfl, by show (0 : Nat) < 2; decide, Or.inl tc_ok⟩
  · exact ⟨rfl, by show (1 : Nat) < 2; decide, Or.inl tc_ok⟩
  · refine ⟨rfl, by show (0 : Nat) < 2; decide, Or.inl ⟨by show (1 : Nat) ≤ 2; decide, by show (1 : Nat) ≤ 2; decide, by show (2 : Nat) ≤ 6; decide, by show (1 : Nat) ≤ 20; decide, fun h => absurd h (by show ¬ (1 : Nat) = 2; decide), fun i => gp_le (fun x hx => ?_) i⟩⟩
    have hx : x ∈ [(tcN 0, 0), (tcN 2, 2)] := hx
    simp only [List.mem_cons, List.not_mem_nil, or_false] at hx
    rcases hx with rfl | rfl
    · exact Nat.zero_le _
    · show (2 : Nat) ≤ 20; decide
  · refine ⟨rfl, by show (0 : Nat) < 2; decide, Or.inl ⟨by show (2 : Nat) ≤ 2; decide, by show (1 : Nat) ≤ 2; decide, by show (2 : Nat) ≤ 6; decide, by show (2 : Nat) ≤ 20; decide, fun _ => rfl, fun i => gp_le (fun x hx => ?_) i⟩⟩
    have hx : x ∈ [(tcN 0, 0), (tcN 3, 1)] := hx
    simp only [List.mem_cons, List.not_mem_nil, or_false] at hx
    rcases hx with rfl | rfl
    · exact Nat.zero_le _
    · show (1 : Nat) ≤ 20; decide
  · refine ⟨rfl, by show (0 : Nat) < 2; decide, Or.inr ⟨by show (3 : Nat) ≤ 3; decide, by show (3 : Nat) ≤ 5; decide, by show (0 : Nat) ≤ 20; decide, by show wdc [114, 117] 0 < 37 ^ 12; decide +kernel, ⟨by rw [pt_4]; decide, fun k hk => ?_⟩, rfl⟩⟩
    unfold ptA
    rw [pt_4] at hk ⊢
    have hk : k < 3 := hk
    have : k = 0 ∨ k = 1 ∨ k = 2 := by omega
    rcases this with rfl | rfl | rfl <;> decide +kernel
  · refine ⟨rfl, by show (1 : Nat) < 2; decide, Or.inr ⟨by show (3 : Nat) ≤ 4; decide, by show (4 : Nat) ≤ 5; decide, by show (0 : Nat) ≤ 20; decide, by show (0 : Nat) < 37 ^ 12; decide, ⟨by show (4 : Nat) ≤ 13; decide, fun k hk => ?_⟩, rfl⟩⟩
    have hk : k < 4 := hk
    show [37, pfN 111, 38, pfN 115].getD k 0 < 39
    have : k = 0 ∨ k = 1 ∨ k = 2 ∨ k = 3 := by omega
    rcases this with rfl | rfl | rfl | rfl <;> decide +kernel
  · refine ⟨rfl, by show (0 : Nat) < 2; decide, Or.inr ⟨by show (3 : Nat) ≤ 5; decide, by show (5 : Nat) ≤ 5; decide, by show (1 : Nat) ≤ 20; decide, by show wdc [99, 111, 116] 0 < 37 ^ 12; decide +kernel, ⟨by show (0 : Nat) ≤ 13; decide, fun k hk => absurd hk (Nat.not_lt_zero k)⟩, rfl⟩⟩
  · exact ⟨rfl, by show (0 : Nat) < 2; decide, Or.inl tc_ok⟩
  · exact ⟨rfl, by show (0 : Nat) < 2; decide, Or.inl tc_ok⟩
theorem wf_1 (hl : l < 9) : qWf (q1L l) := by
  have h := lf_ok hl
  have h1 : lfI (q1L l).2 1 = [0] := by
    show [] ++ (if nLf (ndL l) = true then [0] else []) = [0]
    rw [h.1]; rfl
  have h2 : (qsS (q1L l).2 1).1 = 1 := by
    show (if nLf (ndL l) = true then _ else _ : Nat × (Nat → Nat) × (Nat → Bool)).1 = 1
    rw [if_pos h.1]; rfl
  refine ⟨fun k hk => ?_, by show (lfI (q1L l).2 1).length ≤ 24; rw [h1]; decide, h2, by show (1 : Nat) < 100; decide⟩
  have hk : k < 1 := hk
  obtain rfl : k = 0 := by omega
  exact ⟨fun _ => ⟨by show (0 : Nat) < 8; decide, h.2⟩, fun z => absurd (h.1.symm.trans z) (by decide)⟩
theorem wf_7 : qWf q7L := by
  refine ⟨fun k hk => ?_, by show (3 : Nat) ≤ 24; decide, rfl, by show (4 : Nat) < 100; decide⟩
  have hk : k < 4 := hk
  have : k = 0 ∨ k = 1 ∨ k = 2 ∨ k = 3 := by omega
  rcases this with rfl | rfl | rfl | rfl
  · exact ⟨fun _ => ⟨by show (0 : Nat) < 8; decide, (lf_ok (l := 0) (by decide)).2⟩, fun z => absurd ((lf_ok (l := 0) (by decide)).1.symm.trans z) (by decide)⟩
  · exact ⟨fun _ => ⟨by show (1 : Nat) < 8; decide, (lf_ok (l := 1) (by decide)).2⟩, fun z => absurd ((lf_ok (l := 1) (by decide)).1.symm.trans z) (by decide)⟩
  · exact ⟨fun _ => ⟨by show (2 : Nat) < 8; decide, (lf_ok (l := 7) (by decide)).2⟩, fun z => absurd ((lf_ok (l := 7) (by decide)).1.symm.trans z) (by decide)⟩
  · exact ⟨fun z => absurd (show false = true from z) (by decide), fun _ => ⟨by show (6 : Nat) ≤ 6; decide, by show (6 : Nat) ≤ 7; decide, by show (1 : Nat) ≤ 3; decide, by show (3 : Nat) ≤ 3; decide, by show (1 : Nat) ≤ 8; decide⟩⟩
theorem wf_8 : qWf q8L := by
  refine ⟨fun k hk => ?_, by show (3 : Nat) ≤ 24; decide, rfl, by show (5 : Nat) < 100; decide⟩
  have hk : k < 5 := hk
  have : k = 0 ∨ k = 1 ∨ k = 2 ∨ k = 3 ∨ k = 4 := by omega
  rcases this with rfl | rfl | rfl | rfl | rfl
  · exact ⟨fun _ => ⟨by show (0 : Nat) < 8; decide, (lf_ok (l := 0) (by decide)).2⟩, fun z => absurd ((lf_ok (l := 0) (by decide)).1.symm.trans z) (by decide)⟩
  · exact ⟨fun _ => ⟨by show (1 : Nat) < 8; decide, (lf_ok (l := 8) (by decide)).2⟩, fun z => absurd ((lf_ok (l := 8) (by decide)).1.symm.trans z) (by decide)⟩
  · exact ⟨fun z => absurd (show false = true from z) (by decide), fun _ => ⟨by show (6 : Nat) ≤ 6; decide, by show (6 : Nat) ≤ 7; decide, by show (1 : Nat) ≤ 2; decide, by show (2 : Nat) ≤ 2; decide, by show (2 : Nat) ≤ 8; decide⟩⟩
  · exact ⟨fun _ => ⟨by show (1 : Nat) < 8; decide, (lf_ok (l := 1) (by decide)).2⟩, fun z => absurd ((lf_ok (l := 1) (by decide)).1.symm.trans z) (by decide)⟩
  · exact ⟨fun z => absurd (show false = true from z) (by decide), fun _ => ⟨by show (6 : Nat) ≤ 7; decide, by show (7 : Nat) ≤ 7; decide, by show (1 : Nat) ≤ 2; decide, by show (2 : Nat) ≤ 2; decide, by show (1 : Nat) ≤ 8; decide⟩⟩
theorem wf_all : ∀ e, e ∈ qs6 → qWf e := fun e he => by
  rw [qs6_L] at he
  simp only [List.mem_cons, List.not_mem_nil, or_false] at he
  rcases he with rfl | rfl | rfl | rfl | rfl | rfl | rfl | rfl | rfl
  · exact wf_1 (by decide)
  · exact wf_1 (by decide)
  · exact wf_1 (by decide)
  · exact wf_1 (by decide)
  · exact wf_1 (by decide)
  · exact wf_1 (by decide)
  · exact wf_1 (by decide)
  · exact wf_7
  · exact wf_8
theorem tcW_lt (t : Nat) : tcW t < 37 ^ 12 := by
  unfold tcW
  (repeat' split) <;> decide +kernel
theorem tkW_R (n : Nat) : tkW (sgR sl n) := fun d hd fl y hy => by
  obtain ⟨a, -, rfl⟩ := List.mem_map.mp hd
  have gen : ∀ f, y ∈ tkA a f 5 → ∃ w, w < 37 ^ 12 ∧ y.1 = lN w := fun f h => by
    obtain ⟨p, -, hp⟩ := List.mem_flatMap.mp h
    have hc := tkJ_in hp
    simp only [WL6, List.mem_cons, List.not_mem_nil, or_false] at hc
    rcases hc with e | e | e | e | e <;> exact ⟨_, tcW_lt _, e⟩
  unfold dT at hy
  split at hy
  · exact gen 0 hy
  · exact gen 1 hy
theorem fi_ok (hm : made ≤ 27) (h10 : ∀ n, n < made → (sl n).length ≤ 10) (hs : ∀ s, s ∈ sn → s.2.1.length ≤ 27 ∧ vwM made s.2) : fiOk (sgR sl) made sn qs6 3 1 := ⟨fun n _ => tkW_R n, by omega, fun s h => by
  obtain ⟨h1, h2⟩ := hs s h
  have : allN (sgR sl) s.2.2 s.2.1 ≤ 10 * s.2.1.length := sumL_bd (fun n hn => Nat.le_trans (cntB_le _ _) (by rw [sgR_len]; exact h10 n (h2 n hn)))
  omega, wf_all, by decide, by decide⟩
end LZU
