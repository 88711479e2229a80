/-! a document that matches has a passage -/
section LZZ
variable {sp : Nat → Option Nat} {mk a y key : Nat} {sl : Nat → List Nat} {v : Vw}
theorem mkF_tb {p : Nat} : ∀ {k : Nat}, (mkF sp k).testBit p = true ↔ ∃ i, i < k ∧ ((sp i).getD 0).testBit p = true
  | 0 => by
    constructor
    · intro h
      rw [mkF, Nat.zero_testBit] at h
      exact absurd h (by decide)
    · rintro ⟨i, h, -⟩
      exact absurd h (Nat.not_lt_zero i)
  | k + 1 => by
    rw [mkF, Nat.testBit_or, Bool.or_eq_true, mkF_tb]
    constructor
    · rintro (⟨i, h1, h2⟩ | h)
      · exact ⟨i, by omega, h2⟩
      · exact ⟨k, by omega, h⟩
    · rintro ⟨i, h1, h2⟩
      by_cases c : i = k
      · exact Or.inr (c ▸ h2)
      · exact Or.inl ⟨i, by omega, h2⟩
theorem fpL_1 {g : Nat → Option (List Nat)} {l : List Nat} (h1 : ∀ i, i < a → mk.testBit i = false) (h2 : mk.testBit a = true) (h3 : g a = some l) : ∀ {k b : Nat}, b ≤ a → a < b + k → fpL g mk k b = some l
  | 0, b, hb, hk => absurd hk (by omega)
  | k + 1, b, hb, hk => by
    rw [fpL]
    by_cases c : b = a
    · rw [c, if_pos h2, h3]
    · rw [if_neg (by rw [h1 b (by omega)]; decide)]
      exact fpL_1 h1 h2 h3 (by omega) (by omega)
theorem win : ∀ a p : Fin 5, a ≤ p → (63 * 2 ^ a.val ||| 0).testBit p.val = true := by decide
theorem bit_ex {m : Nat} (h : m ≠ 0) : ∃ p, m.testBit p = true := by
  rcases Classical.em (∃ p, m.testBit p = true) with c | c
  · exact c
  · exact absurd (Nat.eq_of_testBit_eq (fun p => by
      rw [Nat.zero_testBit]
      cases e : m.testBit p with
      | false => rfl
      | true => exact absurd ⟨p, e⟩ c)) h
theorem ps_pos {len i0 m0 : Nat} (hi : i0 < len) (h0 : sp i0 = some m0) (hs : ∀ i m, sp i = some m → i < len ∧ m ≠ 0 ∧ ∀ p, m.testBit p = true → p < 5) : 0 < (psL sp (mkF sp len)).length := by
  obtain ⟨-, m00, -⟩ := hs i0 m0 h0
  obtain ⟨p0, hp0⟩ := bit_ex m00
  have hb0 : (mkF sp len).testBit p0 = true := mkF_tb.mpr ⟨i0, hi, by rw [h0]; exact hp0⟩
  obtain ⟨a, ha, hmin⟩ := min_ex (p := fun p => (mkF sp len).testBit p = true) ⟨p0, hb0⟩
  have in5 : ∀ p, (mkF sp len).testBit p = true → p < 5 := fun p hp => by
    obtain ⟨i, -, h2⟩ := mkF_tb.mp hp
    cases e : sp i with
    | none => rw [e] at h2; exact absurd h2 (by show ¬ Nat.testBit 0 p = true; rw [Nat.zero_testBit]; decide)
    | some m => rw [e] at h2; exact (hs i m e).2.2 p h2
  have ha5 := in5 a ha
  have hP : ∀ p, a ≤ p → p < 5 → (orP [a]).testBit p = true := fun p h1 h2 => win ⟨a, ha5⟩ ⟨p, h2⟩ h1
  have hcv : cvB sp (orP [a]) = true := by
    unfold cvB
    rw [allB_iff]
    intro i _
    unfold cvI
    cases e : sp i with
    | none =>
      dsimp only
      have : orP [a] ≠ 0 := fun z => by
        have := hP a (Nat.le_refl _) ha5
        rw [z, Nat.zero_testBit] at this
        exact absurd this (by decide)
      simp [this]
    | some m =>
      dsimp only
      obtain ⟨hil, hm, h5⟩ := hs i m e
      obtain ⟨p, hp⟩ := bit_ex hm
      have hmp : (mkF sp len).testBit p = true := mkF_tb.mpr ⟨i, hil, by rw [e]; exact hp⟩
      have hap : a ≤ p := by
        rcases Nat.lt_or_ge p a with c | c
        · exact absurd hmp (hmin p c)
        · exact c
      have : m &&& orP [a] ≠ 0 := fun z => by
        have h1 : (m &&& orP [a]).testBit p = true := by rw [Nat.testBit_and, hp, hP p hap (h5 p hp)]; rfl
        rw [z, Nat.zero_testBit] at h1
        exact absurd h1 (by decide)
      simp [this]
  have hf : fpN sp (mkF sp len) 1 [] = some [a] := by
    show fpL (fun p => fpN sp (mkF sp len) 0 ([] ++ [p])) (mkF sp len) (20 - 0) 0 = some [a]
    refine fpL_1 (fun i hi => ?_) ha ?_ (Nat.zero_le a) (by omega)
    · cases e : (mkF sp len).testBit i with
      | false => rfl
      | true => exact absurd e (hmin i hi)
    · show (if cvB sp (orP ([] ++ [a])) = true then some ([] ++ [a]) else none) = some [a]
      rw [List.nil_append, if_pos hcv]
  unfold psL
  rw [if_neg (fun z => by rw [z, Nat.zero_testBit] at ha; exact absurd ha (by decide))]
  unfold psG
  rw [hf]
  exact Nat.one_pos
theorem mkO_5 {l p : Nat} (h : (mkO (dcR a) (ndL l)).testBit p = true) (hl : l < 9) : p < 5 := by
  rcases Nat.lt_or_ge p 5 with c | c
  · exact c
  · exfalso
    rcases Nat.lt_or_ge p 20 with c20 | c20
    · unfold mkO at h
      split at h
      · rename_i hk
        unfold cpN at h
        rw [cpF_tb] at h
        simp only [Bool.and_eq_true] at h
        have h1 := h.2.1
        have gen : ∀ f t, t < 5 → (pmk (tcN t) (tkA a f 5)).testBit p = true → False := fun f t ht hh => by
          rw [mk_tb ht, hs_5 c] at hh
          exact absurd hh (by decide)
        have : l = 0 ∨ l = 1 ∨ l = 2 ∨ l = 3 ∨ l = 4 ∨ l = 5 ∨ l = 6 ∨ l = 7 ∨ l = 8 := by omega
        rcases this with rfl | rfl | rfl | rfl | rfl | rfl | rfl | rfl | rfl
        · exact gen 0 0 (by decide) h1
        · exact gen 1 2 (by decide) h1
        · exact gen 0 0 (by decide) h1
        · exact gen 0 0 (by decide) h1
        · exact absurd hk (by show ¬ (3 : Nat) ≤ 2; decide)
        · exact absurd hk (by show ¬ (4 : Nat) ≤ 2; decide)
        · exact absurd hk (by show ¬ (5 : Nat) ≤ 2; decide)
        · exact gen 0 3 (by decide) h1
        · exact gen 0 4 (by decide) h1
      · obtain ⟨w, -, h2⟩ := tdK_tb.mp h
        have gen : ∀ f, (w, p) ∈ tkA a f 5 → False := fun f hf => by
          obtain ⟨p', hp', h3⟩ := List.mem_flatMap.mp hf
          have hc := tkJ_in h3
          have := List.mem_range.mp hp'
          simp only [WL6, List.mem_cons, List.not_mem_nil, or_false] at hc
          rcases hc with e | e | e | e | e <;> (subst e; have := ((tkJ_B (by decide)).mp h3).1; omega)
        unfold dT at h2
        split at h2
        · exact gen 0 h2
        · exact gen 1 h2
    · rw [mkO_hi p c20] at h
      exact absurd h (by decide)
/-- passages in the first field -/
theorem ps_y {n j : Nat} (hj : (sl n)[j]? = some a) (hy : y < 9) (h10 : ∀ n, n ∈ v.1 → (sl n).length ≤ 10) {e : Nat × (Nat → Nd)} (he : qs6[y]? = some e) (hr : 0 < rkN (gaN sl v) a y) (h1 : y ≠ 1) (h5 : y ≠ 5) (h7 : y ≠ 7) : 0 < (psM e (dcR a) 0).length := by
  have nz : ∀ l, l < 9 → 0 < giN (gaN sl v) a l → mkO (dcR a) (ndL l) ≠ 0 := fun l hl h z => by
    have e0 := (pc_0 (fun p hp => mkO_hi (a := a) (l := l) p hp)).mpr z
    rw [lf_cnt hl] at e0
    have := (gi_0 (sl := sl) (v := v) hl).mpr e0
    omega
  have some_ : (evS e.2 (gvF e.2 e.1 0 0 (fun _ => 0) (fun i => mkO (dcR a) (lfD e.2 e.1 i))) e.1 0).isSome = true := by
    have h := vl_y hy h10 he hj
    have h2 : (vlN e.2 e.1 3 1 (rrL e.2 e.1 (sgR sl) v.2 v.1) (sgR sl n) j).isSome = (vlN e.2 e.1 0 0 (fun _ => 0) (sgR sl n) j).isSome := vl_some
    rw [h, vlN_O (sgR_get.mpr ⟨a, hj, rfl⟩)] at h2
    rw [← h2]
    unfold opN
    rw [if_neg (by omega)]
    rfl
  unfold psM psD
  rw [if_pos some_]
  have leaf : ∀ i m, spF e.2 e.1 (fun i => mkO (dcR a) (lfD e.2 e.1 i)) 0 i = some m → i < (lfI e.2 e.1).length ∧ m ≠ 0 ∧ ∀ p, m.testBit p = true → p < 5 := fun i m h => by
    unfold spF at h
    split at h
    · rename_i c
      have em := Option.some.inj h
      refine ⟨c.1, by rw [← em]; exact c.2.2.2, fun p hp => ?_⟩
      rw [← em] at hp
      have hl : ∃ l, l < 9 ∧ lfD e.2 e.1 i = ndL l := by
        have c1 := c.1
        have : y = 0 ∨ y = 2 ∨ y = 3 ∨ y = 4 ∨ y = 6 ∨ y = 8 := by omega
        rcases this with rfl | rfl | rfl | rfl | rfl | rfl <;> (obtain rfl := Option.some.inj he)
        · have c1 : i < 1 := c1
          obtain rfl : i = 0 := by omega
          exact ⟨0, by decide, rfl⟩
        · have c1 : i < 1 := c1
          obtain rfl : i = 0 := by omega
          exact ⟨2, by decide, rfl⟩
        · have c1 : i < 1 := c1
          obtain rfl : i = 0 := by omega
          exact ⟨3, by decide, rfl⟩
        · have c1 : i < 1 := c1
          obtain rfl : i = 0 := by omega
          exact ⟨4, by decide, rfl⟩
        · have c1 : i < 1 := c1
          obtain rfl : i = 0 := by omega
          exact ⟨6, by decide, rfl⟩
        · have c1 : i < 3 := c1
          have : i = 0 ∨ i = 1 ∨ i = 2 := by omega
          rcases this with rfl | rfl | rfl
          · exact ⟨0, by decide, rfl⟩
          · exact ⟨8, by decide, rfl⟩
          · exact ⟨1, by decide, rfl⟩
      obtain ⟨l, hl9, hl⟩ := hl
      have hp : (mkO (dcR a) (lfD e.2 e.1 i)).testBit p = true := hp
      rw [hl] at hp
      exact mkO_5 hp hl9
    · exact absurd h (by simp)
  have g1 : ∀ l, l < 7 → rkN (gaN sl v) a l = giN (gaN sl v) a l := fun l hl => by unfold rkN; rw [if_pos hl]
  have : y = 0 ∨ y = 2 ∨ y = 3 ∨ y = 4 ∨ y = 6 ∨ y = 8 := by omega
  rcases this with rfl | rfl | rfl | rfl | rfl | rfl <;> (obtain rfl := Option.some.inj he)
  · exact ps_pos (i0 := 0) (m0 := mkO (dcR a) (ndL 0)) (by show (0 : Nat) < 1; decide) (if_pos ⟨by show (0 : Nat) < 1; decide, rfl, rfl, nz 0 (by decide) (by rw [← g1 0 (by decide)]; exact hr)⟩) leaf
  · exact ps_pos (i0 := 0) (m0 := mkO (dcR a) (ndL 2)) (by show (0 : Nat) < 1; decide) (if_pos ⟨by show (0 : Nat) < 1; decide, rfl, rfl, nz 2 (by decide) (by rw [← g1 2 (by decide)]; exact hr)⟩) leaf
  · exact ps_pos (i0 := 0) (m0 := mkO (dcR a) (ndL 3)) (by show (0 : Nat) < 1; decide) (if_pos ⟨by show (0 : Nat) < 1; decide, rfl, rfl, nz 3 (by decide) (by rw [← g1 3 (by decide)]; exact hr)⟩) leaf
  · exact ps_pos (i0 := 0) (m0 := mkO (dcR a) (ndL 4)) (by show (0 : Nat) < 1; decide) (if_pos ⟨by show (0 : Nat) < 1; decide, rfl, rfl, nz 4 (by decide) (by rw [← g1 4 (by decide)]; exact hr)⟩) leaf
  · exact ps_pos (i0 := 0) (m0 := mkO (dcR a) (ndL 6)) (by show (0 : Nat) < 1; decide) (if_pos ⟨by show (0 : Nat) < 1; decide, rfl, rfl, nz 6 (by decide) (by rw [← g1 6 (by decide)]; exact hr)⟩) leaf
  · have e8 : rkN (gaN sl v) a 8 = if 0 < giN (gaN sl v) a 0 ∧ 0 < giN (gaN sl v) a 8 ∧ giN (gaN sl v) a 1 = 0 then giN (gaN sl v) a 0 + giN (gaN sl v) a 8 else 0 := rfl
    have h0 : 0 < giN (gaN sl v) a 0 := by
      rw [e8] at hr
      split at hr
      · rename_i c; exact c.1
      · exact absurd hr (Nat.lt_irrefl _)
    exact ps_pos (i0 := 0) (m0 := mkO (dcR a) (ndL 0)) (by show (0 : Nat) < 3; decide) (if_pos ⟨by show (0 : Nat) < 3; decide, rfl, rfl, nz 0 (by decide) h0⟩) leaf
end LZZ
