/-! what a document's tokens mark -/
section LZQ
variable {a f t p q w : Nat}
theorem tcN_inj : ∀ s t : Fin 5, tcN s.val = tcN t.val → s = t := by decide +kernel
theorem tcN_eq {s t : Nat} (hs : s < 5) (ht : t < 5) : tcN s = tcN t ↔ s = t := ⟨fun e => by
  have := tcN_inj ⟨s, hs⟩ ⟨t, ht⟩ e
  exact congrArg Fin.val this, fun e => by rw [e]⟩
theorem tkI_k (w : Nat) : tkI w = none ∨ ∃ k, k < 5 ∧ tkI w = some k := by
  unfold tkI
  split
  · exact Or.inr ⟨0, by decide, rfl⟩
  · split
    · exact Or.inr ⟨w - 2, by omega, rfl⟩
    · exact Or.inl rfl
theorem tkJ_B (ht : t < 5) : (tcN t, q) ∈ tkJ (tkI w) p ↔ q = p ∧ tkB (tkI w) t = true := by
  rcases tkI_k w with e | ⟨k, hk, e⟩
  · rw [e]
    exact ⟨fun h => absurd h List.not_mem_nil, fun h => absurd (show false = true from h.2) (by decide)⟩
  · rw [e]
    unfold tkJ tkB
    dsimp only
    by_cases c : k = 0
    · subst c
      rw [if_pos rfl]
      simp only [List.mem_cons, List.not_mem_nil, or_false, Prod.mk.injEq, tcN_eq ht (show 0 < 5 by decide), tcN_eq ht (show 2 < 5 by decide), Bool.or_eq_true, Bool.and_eq_true, decide_eq_true_eq]
      constructor
      · rintro (⟨h1, h2⟩ | ⟨h1, h2⟩)
        · exact ⟨h2, Or.inl h1.symm⟩
        · exact ⟨h2, Or.inr ⟨trivial, h1⟩⟩
      · rintro ⟨h1, h2 | ⟨-, h2⟩⟩
        · exact Or.inl ⟨h2.symm, h1⟩
        · exact Or.inr ⟨h2, h1⟩
    · rw [if_neg c]
      simp only [List.mem_cons, List.not_mem_nil, or_false, Prod.mk.injEq, tcN_eq ht hk, Bool.or_eq_true, Bool.and_eq_true, decide_eq_true_eq]
      constructor
      · rintro ⟨h1, h2⟩
        exact ⟨h2, Or.inl h1.symm⟩
      · rintro ⟨h1, h2 | ⟨h2, -⟩⟩
        · exact ⟨h2.symm, h1⟩
        · exact absurd h2 c
theorem hs_5 (h : 5 ≤ p) : hsN a f p t = false := by
  unfold hsN wdN
  rw [if_neg (by omega)]
  rfl
theorem tkA_in (ht : t < 5) : (tcN t, p) ∈ tkA a f 5 ↔ hsN a f p t = true := by
  unfold tkA
  rw [List.mem_flatMap]
  constructor
  · rintro ⟨p', hp', h⟩
    obtain ⟨rfl, h2⟩ := (tkJ_B ht).mp h
    exact h2
  · intro h
    refine ⟨p, List.mem_range.mpr ?_, (tkJ_B ht).mpr ⟨rfl, h⟩⟩
    rcases Nat.lt_or_ge p 5 with c | c
    · exact c
    · rw [hs_5 c] at h; exact absurd h (by decide)
/-- the mask of a token -/
theorem mk_tb (ht : t < 5) : (pmk (tcN t) (tkA a f 5)).testBit p = hsN a f p t := by
  rw [Bool.eq_iff_iff, pmk_tb, tkA_in ht]
theorem pc_cnt {m : Nat} : ∀ n : Nat, pcN m n = cntB (fun p => m.testBit p) n
  | 0 => rfl
  | n + 1 => by
    show pcN m n + _ = cntB _ n + _
    rw [pc_cnt n]
theorem pc_cp {d : Nd} {mk : Nat → Nat} {g : Nat → Bool} (h5 : ∀ p, 5 ≤ p → g p = false) (h : ∀ p, p < 20 → ((mk 0).testBit p && cAt d mk p) = g p) : pcN (cpN d mk) 20 = cntB g 5 := by
  rw [pc_cnt, ← cntB_out h5 15]
  refine cntB_ext (fun p hp => ?_)
  unfold cpN
  rw [cpF_tb, decide_eq_true (by omega), Bool.true_and]
  exact h p hp
/-- a term -/
theorem lf_term (ht : t < 5) : pcN (cpN ((0, f, 0, 0), false, [(tcN t, 0)], [], 0) (fun i => pmk (tkC ((0, f, 0, 0), false, [(tcN t, 0)], [], 0) i) (tkA a f 5))) 20 = cuN a f t := pc_cp (g := fun p => hsN a f p t) (fun p hp => hs_5 hp) (fun p hp => by
  show ((pmk (tcN t) (tkA a f 5)).testBit p && cAt _ _ p) = _
  rw [mk_tb ht]
  have : cAt ((0, f, 0, 0), false, [(tcN t, 0)], [], 0) (fun i => pmk (tkC ((0, f, 0, 0), false, [(tcN t, 0)], [], 0) i) (tkA a f 5)) p = true := by
    show decide (p ≤ p + 0 + 0) = true
    exact decide_eq_true (by omega)
  rw [this, Bool.and_true])
theorem plN_2 {m f : Nat} (hf : f + 1 < 20) : (match plN m f with | none => false | some l => decide (l ≤ f + 1)) = (m.testBit f || m.testBit (f + 1)) := by
  unfold plN
  have hle := fst0_le (fun k => m.testBit (f + k)) (20 - f)
  have hpre := fun j => @fst0_pre (fun k => m.testBit (f + k)) (20 - f) j
  have hat := @fst0_at (fun k => m.testBit (f + k)) (20 - f)
  generalize fst0 (fun k => m.testBit (f + k)) (20 - f) = z at hle hpre hat
  by_cases c0 : z = 0
  · subst c0
    have := hat (by omega)
    rw [Nat.add_zero] at this
    rw [if_pos (by omega), this, Bool.true_or]
    exact decide_eq_true (by omega)
  · have h0 := hpre 0 (by omega)
    rw [Nat.add_zero] at h0
    rw [h0, Bool.false_or]
    by_cases c1 : z = 1
    · subst c1
      have := hat (by omega)
      rw [if_pos (by omega), this]
      exact decide_eq_true (by omega)
    · have h1 := hpre 1 (by omega)
      rw [h1]
      split
      · rename_i e
        rfl
      · rename_i l e
        split at e
        · have := Option.some.inj e
          exact decide_eq_false (by omega)
        · exact absurd e (by simp)
/-- a phrase -/
theorem lf_phr : pcN (cpN ((1, 0, 1, 0), false, [(tcN 0, 0), (tcN 2, 2)], [], 0) (fun i => pmk (tkC ((1, 0, 1, 0), false, [(tcN 0, 0), (tcN 2, 2)], [], 0) i) (tkA a 0 5))) 20 = cntB (phB a) 5 := pc_cp (g := phB a) (fun p hp => by unfold phB; rw [hs_5 hp]; rfl) (fun p hp => by
  show ((pmk (tcN 0) (tkA a 0 5)).testBit p && cAt _ _ p) = phB a p
  rw [mk_tb (by decide)]
  unfold phB
  rcases Nat.lt_or_ge p 5 with c | c
  · refine congrArg (fun z => hsN a 0 p 0 && z) ?_
    have e := plN_2 (m := pmk (tcN 2) (tkA a 0 5)) (f := p + 2) (by omega)
    rw [mk_tb (by decide), mk_tb (by decide)] at e
    rw [show p + 3 = p + 2 + 1 by omega, ← e]
    show (match plN (pmk (tcN 2) (tkA a 0 5)) (p + 2) with | none => false | some l => decide (l ≤ p + 1 + (0 + 2))) = _
    rw [show p + 1 + (0 + 2) = p + 2 + 1 by omega]
  · rw [hs_5 c]; rfl)
/-- nearness -/
theorem lf_near : pcN (cpN ((2, 0, 2, 0), false, [(tcN 0, 0), (tcN 3, 1)], [], 0) (fun i => pmk (tkC ((2, 0, 2, 0), false, [(tcN 0, 0), (tcN 3, 1)], [], 0) i) (tkA a 0 5))) 20 = cntB (nrB a) 5 := pc_cp (g := nrB a) (fun p hp => by unfold nrB; rw [hs_5 hp]; rfl) (fun p hp => by
  show ((pmk (tcN 0) (tkA a 0 5)).testBit p && nbB (pmk (tcN 3) (tkA a 0 5)) p 2 false) = nrB a p
  rw [mk_tb (by decide)]
  unfold nrB
  rcases Nat.lt_or_ge p 5 with c | c
  · refine congrArg (fun z => hsN a 0 p 0 && z) ?_
    unfold nbB anyB anyB anyB
    simp only [mk_tb (show 3 < 5 by decide), Nat.zero_add]
    rw [decide_eq_true (show p + 1 < 20 by omega), decide_eq_true (show p + (1 + 1) < 20 by omega)]
    simp only [Bool.true_and, Bool.not_false, Bool.false_or]
    cases hsN a 0 (p + 1) 3 <;> cases hsN a 0 (p + 2) 3 <;> cases (decide (1 ≤ p) && hsN a 0 (p - 1) 3) <;> cases (decide (2 ≤ p) && hsN a 0 (p - 2) 3) <;> rfl
  · rw [hs_5 c]; rfl)
/-- a leaf that tells tokens -/
theorem lf_told {g : Int64 → Bool} {T : Nat} (hT : T < 5) (h : ∀ t, t < 5 → g (tcN t) = decide (t = T)) : pcN (tdK g (tkA a f 5)) 20 = cuN a f T := by
  rw [pc_cnt]
  show _ = cntB (fun p => hsN a f p T) 5
  rw [← cntB_out (f := fun p => hsN a f p T) (K := 5) (fun p hp => hs_5 hp) 15]
  refine cntB_ext (fun p hp => ?_)
  rw [Bool.eq_iff_iff, tdK_tb, ← tkA_in hT]
  constructor
  · rintro ⟨c, h1, h2⟩
    obtain ⟨p', hp', h3⟩ := List.mem_flatMap.mp h2
    obtain ⟨t, ht, e⟩ : ∃ t, t < 5 ∧ c = tcN t := by
      have hc := tkJ_in h3
      simp only [WL6, List.mem_cons, List.not_mem_nil, or_false] at hc
      rcases hc with e | e | e | e | e
      · exact ⟨0, by decide, e⟩
      · exact ⟨1, by decide, e⟩
      · exact ⟨2, by decide, e⟩
      · exact ⟨3, by decide, e⟩
      · exact ⟨4, by decide, e⟩
    subst e
    rw [h t ht] at h1
    rw [of_decide_eq_true h1] at h2
    exact h2
  · intro h2
    exact ⟨tcN T, by rw [h T hT]; exact decide_eq_true rfl, h2⟩
end LZQ
