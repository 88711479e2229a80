/-! both worlds together: questions about words -/
section WPS
variable {S : cS} {ρ : Nat → Nat} {dp made : Nat} {so : Nat → Nat} {sd : Nat → List Nat} {sg : Nat → List Dc} {wp : Wps} {ids : List Nat} {off : Bool} {x y z : Int32} {WL : List Int64}
theorem wp_ex (g : gSegs S ρ dp so sd sg made) : ∃ wp : Wps, wpOk sg made wp := by
  have h : ∀ n fl, ∃ w : List (Int64 × List (Nat × Nat)), n < made → fl < 2 → wOk w (fun c => pstOf (tlD (sg n) fl) c (sg n).length) := fun n fl => by
    by_cases c : n < made ∧ fl < 2
    · obtain ⟨wl, wp, -, -, h⟩ := (g n c.1).2.2.2.2.2.2 fl c.2
      exact ⟨wp, fun _ _ => h⟩
    · exact ⟨[], fun a b => absurd ⟨a, b⟩ c⟩
  obtain ⟨wp, h2⟩ := Classical.skolem.mp (fun n => Classical.skolem.mp (h n))
  exact ⟨wp, h2⟩
theorem tlD_mem {L : List Dc} {fl j p : Nat} {c : Int64} (h : (c, p) ∈ tlD L fl j) : ∃ d, d ∈ L ∧ (c, p) ∈ dT d fl := by
  unfold tlD at h
  cases e : L[j]? with
  | none => rw [e] at h; exact absurd h List.not_mem_nil
  | some d =>
    rw [e] at h
    exact ⟨d, List.mem_of_getElem? e, h⟩
theorem wp_N (h : wpOk sg made wp) (ht : ∀ n, n < made → tkW (sg n)) : wpN wp made := fun n fl hn hf i q hq => by
  obtain ⟨j, p, hj, hm⟩ := pst_ne ((wOk_mem (h n fl hn hf) q).mp (List.mem_of_getElem? hq)).2
  obtain ⟨d, hd, hx⟩ := tlD_mem hm
  exact ht n hn d hd fl (q.1, p) hx
theorem tkIn_mk {l : LGt} (hW : WL.length ≤ 512) (hl : l.2.2.1 ≤ 10) (h : ∀ n, n < made → ∀ d, d ∈ sg n → tIn WL l d) : tkIn sg made (WL ++ (List.range l.2.2.1).map l.2.1) := by
  refine ⟨by rw [List.length_append, List.length_map, List.length_range]; omega, fun n fl j p c hn hf hm => ?_⟩
  obtain ⟨d, hd, hx⟩ := tlD_mem hm
  rcases h n hn d hd fl (c, p) hx with q | ⟨i, hi, q⟩
  · exact List.mem_append_left _ q
  · exact List.mem_append_right _ (List.mem_map.mpr ⟨i, List.mem_range.mpr hi, q.symm⟩)
theorem wd_dec (ids : List Nat) (off : Bool) (x y : Int32) : (off = true ∨ (∀ k, k < ids.length → x ≠ nI k) ∨ ∀ k, k < 2 → y ≠ nI k) ∨ (off = false ∧ ∃ a n fl, ids[a]? = some n ∧ x = nI a ∧ fl < 2 ∧ y = nI fl) := by
  cases off with
  | true => exact Or.inl (Or.inl rfl)
  | false =>
    by_cases h1 : ∃ a, a < ids.length ∧ x = nI a
    · obtain ⟨a, ha, ex⟩ := h1
      by_cases h2 : ∃ fl, fl < 2 ∧ y = nI fl
      · obtain ⟨fl, hf, ey⟩ := h2
        obtain ⟨n, hn⟩ := get_ex ha
        exact Or.inr ⟨rfl, a, n, fl, hn, ex, hf, ey⟩
      · exact Or.inl (Or.inr (Or.inr (fun k a b => h2 ⟨k, a, b⟩)))
    · exact Or.inl (Or.inr (Or.inl (fun k a b => h1 ⟨k, a, b⟩)))
theorem wd_no {k n fl : Nat} (hy : off = true ∨ (∀ k, k < ids.length → x ≠ nI k) ∨ ∀ k, k < 2 → y ≠ nI k) (e0 : off = false) (h1 : ids[k]? = some n) (h3 : x = nI k) (h4 : fl < 2) (h5 : y = nI fl) : False := by
  rcases hy with h | h | h
  · rw [e0] at h; exact absurd h (by decide)
  · exact h k (get_lt h1) h3
  · exact h fl h4 h5
theorem pl_un {a a' n n' fl fl' : Nat} (hl : ids.length ≤ 200) (h1 : ids[a]? = some n) (h2 : ids[a']? = some n') (e : nI a = nI a') (hf : fl < 2) (hf' : fl' < 2) (e2 : nI fl = nI fl') : n' = n ∧ fl' = fl := by
  have := get_lt h1
  have := get_lt h2
  obtain rfl : a = a' := (nI_eq (by omega) (by omega)).mp e
  rw [h1] at h2
  exact ⟨(Option.some.inj h2).symm, ((nI_eq (by omega) (by omega)).mp e2).symm⟩
theorem nw_dec (sg : Nat → List Dc) (wp : Wps) (ids : List Nat) (off : Bool) (x y z : Int32) : noWd sg ids wp off x y z ∨ (off = false ∧ ∃ a n fl j q, ids[a]? = some n ∧ x = nI a ∧ fl < 2 ∧ y = nI fl ∧ (wp n fl)[j]? = some q ∧ z = nI j) := by
  rcases wd_dec ids off x y with h | ⟨h0, a, n, fl, h1, h2, h3, h4⟩
  · exact Or.inl (h.elim Or.inl (fun h => Or.inr (h.elim Or.inl (fun h => Or.inr (Or.inl h)))))
  · by_cases c : ∃ j, j < (wp n fl).length ∧ z = nI j
    · obtain ⟨j, hj, ez⟩ := c
      obtain ⟨q, hq⟩ := get_ex hj
      exact Or.inr ⟨h0, a, n, fl, j, q, h1, h2, h3, h4, hq, ez⟩
    · exact Or.inl (Or.inr (Or.inr (Or.inr ⟨a, n, fl, h1, h2, h3, h4, fun j a b => c ⟨j, a, b⟩⟩)))
theorem nw_no {k n fl j : Nat} {q : Int64 × List (Nat × Nat)} (hl : ids.length ≤ 200) (hy : noWd sg ids wp off x y z) (e0 : off = false) (h1 : ids[k]? = some n) (h3 : x = nI k) (h4 : fl < 2) (h5 : y = nI fl) (h6 : (wp n fl)[j]? = some q) (h7 : z = nI j) : False := by
  rcases hy with h | h | h | ⟨k2, n2, fl2, g1, g2, g3, g4, g5⟩
  · rw [e0] at h; exact absurd h (by decide)
  · exact h k (get_lt h1) h3
  · exact h fl h4 h5
  · obtain ⟨rfl, rfl⟩ := pl_un hl h1 g1 (h3.symm.trans g2) h4 g3 (h5.symm.trans g4)
    exact g5 j (get_lt h6) h7
theorem nw_cls (hwp : wpOk sg made wp) (hM : ∀ n, n ∈ ids → n < made) (h : noWd sg ids wp off x y z) : off = true ∨ (∀ k, k < ids.length → x ≠ nI k) ∨ (∀ k, k < 2 → y ≠ nI k) ∨ ∃ k n fl wp, ids[k]? = some n ∧ x = nI k ∧ fl < 2 ∧ y = nI fl ∧ wOk wp (fun c => pstOf (tlD (sg n) fl) c (sg n).length) ∧ ∀ j, j < wp.length → z ≠ nI j := by
  rcases h with h | h | h | ⟨k2, n2, fl2, g1, g2, g3, g4, g5⟩
  · exact Or.inl h
  · exact Or.inr (Or.inl h)
  · exact Or.inr (Or.inr (Or.inl h))
  · exact Or.inr (Or.inr (Or.inr ⟨k2, n2, fl2, wp n2 fl2, g1, g2, g3, g4, hwp n2 fl2 (hM n2 (List.mem_of_getElem? g1)) g3, g5⟩))
theorem nw_un {a n fl j a' n' fl' j' : Nat} {q q' : Int64 × List (Nat × Nat)} (hl : ids.length ≤ 200) (hwp : wpOk sg made wp) (hW : tkIn sg made WL) (hn : n < made) (h1 : ids[a]? = some n) (h2 : ids[a']? = some n') (e : nI a = nI a') (hf : fl < 2) (hf' : fl' < 2) (e2 : nI fl = nI fl') (hq : (wp n fl)[j]? = some q) (hq' : (wp n' fl')[j']? = some q') (e3 : nI j = nI j') : n' = n ∧ fl' = fl ∧ j' = j ∧ q' = q := by
  obtain ⟨rfl, rfl⟩ := pl_un hl h1 h2 e hf hf' e2
  have := wp_len hwp hW hn hf
  have := get_lt hq
  have := get_lt hq'
  obtain rfl : j = j' := (nI_eq (by omega) (by omega)).mp e3
  rw [hq] at hq'
  exact ⟨rfl, rfl, rfl, (Option.some.inj hq').symm⟩
theorem enc_len {n fl j : Nat} {q : Int64 × List (Nat × Nat)} (hwp : wpOk sg made wp) (hok : ∀ n, n < made → ∀ d, d ∈ sg n → okD d) (h100 : (sg n).length ≤ 100) (t2 : n < made) (hf : fl < 2) (hq : (wp n fl)[j]? = some q) : (encN (nmN 0 q.2)).length < 19200 := by
  have hwq := ((wOk_mem (hwp n fl t2 hf) q).mp (List.mem_of_getElem? hq)).1
  have hok0 := (pstOf_ok (c := q.1) (fun i => (tlD_ok (hok n t2) fl i).1) h100)
  rw [← hwq] at hok0
  have e1 := okP_N hok0.1
  have e3 : (encN (nmN 0 q.2)).length ≤ phiL (q.1, q.2) + 4 := (eLen_le (x := (q.1, q.2)) hok0.1).1
  have h2 : phiL (q.1, q.2) ≤ 8 * (22 * q.2.length) := e1.2
  have := hok0.2.2
  omega
end WPS
