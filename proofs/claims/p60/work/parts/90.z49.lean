/-! the files are the same in both worlds -/
theorem cntB_any {q : Nat → Bool} {n : Nat} : decide (cntB q n < n) = anyB (fun j => !q j) n := by
  rw [Bool.eq_iff_iff, decide_eq_true_iff, anyB_iff]
  constructor
  · intro h
    refine Classical.byContradiction (fun w => ?_)
    have : allB q n = true := allB_iff.mpr (fun j hj => by
      cases c : q j with
      | true => rfl
      | false => exact absurd ⟨j, hj, by rw [c]; rfl⟩ w)
    have := cntB_all.mpr this
    omega
  · rintro ⟨j, hj, e⟩
    have h1 := cntB_le q n
    have h2 : cntB q n ≠ n := fun w => by
      have := allB_iff.mp (cntB_all.mp w) j hj
      rw [this] at e
      exact absurd e (by decide)
    omega
theorem ovIL (o : Option Vw) : ovI o = ovL o := by cases o <;> rfl
theorem fiN_rfA {f : Nat → Nat → Int32} {sg : Nat → List Dc} {made : Nat} {ix : Vw} {mg : Option (Vw × Nat)} {cm pr : Option Vw} {sn : List (Nat × Vw)} {sl : Nat → Option (Nat × Vw)} (hp : sn.Perm ((List.range 5).filterMap sl)) (hM : ixM made ix mg cm pr sn) (hc : ∀ s, cm = some s → s.1.Nodup) (hpr : ∀ s, pr = some s → s.1.Nodup) (hf : ∀ s t n j, cm = some s → pr = some t → n ∈ s.1 → n ∈ t.1 → j < (sg n).length → f 26 (100 * n + j) = bI (s.2 n j) ∧ f 28 (100 * n + j) = bI (t.2 n j)) : fiN sg ix mg cm pr sn = rfA f sg made ix.1 mg cm pr sl := by
  obtain ⟨m1, m2, m3, m4, m5⟩ := id hM
  have hall : ∀ n, n ∈ ((ix.1 ++ sn.flatMap (fun s => s.2.1)) ++ ovI cm) ++ ovI pr → n < made := by
    intro n hn
    rcases List.mem_append.mp hn with hn | hn
    · rcases List.mem_append.mp hn with hn | hn
      · rcases List.mem_append.mp hn with hn | hn
        · exact m1 n hn
        · obtain ⟨s, hs, h⟩ := List.mem_flatMap.mp hn
          exact m5 s hs n h
      · cases cm with
        | none => exact absurd hn List.not_mem_nil
        | some s => exact m3 s rfl n hn
    · cases pr with
      | none => exact absurd hn List.not_mem_nil
      | some s => exact m4 s rfl n hn
  have eA : (seenF (fun _ => false) (((ix.1 ++ sn.flatMap (fun s => s.2.1)) ++ ovI cm) ++ ovI pr)).2 = cntB (fun n => decide (n ∈ ovL cm) || decide (n ∈ ovL pr) || decide (n ∈ ix.1) || anyB (lkM sl n) 5) made := by
    rw [seenF_cnt _ _ hall]
    refine cntB_ext (fun n _ => ?_)
    have e1 : anyB (lkM sl n) 5 = true ↔ n ∈ sn.flatMap (fun s => s.2.1) := by
      rw [anyB_iff, List.mem_flatMap]
      constructor
      · rintro ⟨a, ha, h⟩
        unfold lkM at h
        cases hs : sl a with
        | none => rw [hs] at h; have h : false = true := h; exact absurd h (by decide)
        | some s => rw [hs] at h; exact ⟨s, (sn_ex hp).mpr ⟨a, ha, hs⟩, of_decide_eq_true h⟩
      · rintro ⟨s, hs, h⟩
        obtain ⟨a, ha, hsl⟩ := (sn_ex hp).mp hs
        refine ⟨a, ha, ?_⟩
        unfold lkM
        rw [hsl]
        exact decide_eq_true h
    rw [Bool.eq_iff_iff, Bool.and_eq_true, Bool.or_eq_true, Bool.or_eq_true, Bool.or_eq_true, e1, ovIL, ovIL]
    simp only [List.mem_append, decide_eq_true_eq, Bool.not_false, and_true]
    constructor
    · rintro (((h | h) | h) | h)
      · exact Or.inl (Or.inr h)
      · exact Or.inr h
      · exact Or.inl (Or.inl (Or.inl h))
      · exact Or.inl (Or.inl (Or.inr h))
    · rintro (((h | h) | h) | h)
      · exact Or.inl (Or.inr h)
      · exact Or.inr h
      · exact Or.inl (Or.inl (Or.inl h))
      · exact Or.inl (Or.inl (Or.inr h))
  have eB : deN sg cm none = cntB (dvB sg cm) made := by
    cases cm with
    | none => exact (cntB_zero (fun i _ => rfl)).symm
    | some s =>
      show sumL _ s.1 = _
      rw [sumL_cnt (N := made) (p := deB sg s.2 none) (hc s rfl) (m3 s rfl)]
      refine cntB_ext (fun n _ => ?_)
      show (decide (n ∈ s.1) && (decide (cntB (s.2 n) (sg n).length < (sg n).length) && true)) = (decide (n ∈ s.1) && anyB (fun j => !s.2 n j) (sg n).length)
      rw [Bool.and_true, cntB_any]
  have eC : deN sg pr cm = cntB (fun n => dvB sg pr n && !(dvB sg cm n && svB f sg n)) made := by
    cases pr with
    | none => exact (cntB_zero (fun i _ => rfl)).symm
    | some t =>
      show sumL _ t.1 = _
      rw [sumL_cnt (N := made) (p := deB sg t.2 cm) (hpr t rfl) (m4 t rfl)]
      refine cntB_ext (fun n _ => ?_)
      show (decide (n ∈ t.1) && deB sg t.2 cm n) = ((decide (n ∈ t.1) && anyB (fun j => !t.2 n j) (sg n).length) && !(dvB sg cm n && svB f sg n))
      by_cases hn : n ∈ t.1
      · rw [decide_eq_true hn, Bool.true_and, Bool.true_and]
        unfold deB
        rw [cntB_any]
        cases cm with
        | none => rfl
        | some s =>
          show (_ && (if n ∈ s.1 then !(allB (fun j => t.2 n j == s.2 n j) (sg n).length) else true)) = (_ && !((decide (n ∈ s.1) && anyB (fun j => !s.2 n j) (sg n).length) && svB f sg n))
          by_cases hs : n ∈ s.1
          · rw [if_pos hs, decide_eq_true hs, Bool.true_and]
            have e1 : svB f sg n = allB (fun j => t.2 n j == s.2 n j) (sg n).length := by
              unfold svB
              rw [Bool.eq_iff_iff, allB_iff, allB_iff]
              have : ∀ j, j < (sg n).length → (decide (f 26 (100 * n + j) = f 28 (100 * n + j)) = true ↔ (t.2 n j == s.2 n j) = true) := fun j hj => by
                obtain ⟨g1, g2⟩ := hf s t n j rfl rfl hs hn hj
                rw [g1, g2, decide_eq_true_iff]
                cases s.2 n j <;> cases t.2 n j <;> decide
              exact ⟨fun h j hj => (this j hj).mp (h j hj), fun h j hj => (this j hj).mpr (h j hj)⟩
            rw [e1]
            cases c : allB (fun j => t.2 n j == s.2 n j) (sg n).length with
            | false => rw [Bool.and_false]
            | true =>
              have c' := allB_iff.mp c
              have e2 : anyB (fun j => !t.2 n j) (sg n).length = anyB (fun j => !s.2 n j) (sg n).length := by
                rw [Bool.eq_iff_iff, anyB_iff, anyB_iff]
                constructor
                · rintro ⟨j, hj, h⟩
                  exact ⟨j, hj, by rw [← eq_of_beq (c' j hj)]; exact h⟩
                · rintro ⟨j, hj, h⟩
                  exact ⟨j, hj, by rw [eq_of_beq (c' j hj)]; exact h⟩
              rw [e2, Bool.and_true]
              cases anyB (fun j => !s.2 n j) (sg n).length <;> rfl
          · rw [if_neg hs, decide_eq_false hs, Bool.false_and, Bool.false_and]; rfl
      · rw [decide_eq_false hn, Bool.false_and, Bool.false_and, Bool.false_and]
  have eS : ∀ o : Option Vw, isC1 o = if o.isSome = true then 1 else 0 := fun o => by cases o <;> rfl
  unfold fiN rfA
  have eR : smN (rfN f sg ix.1 cm pr sl) made = cntB (fun n => decide (n ∈ ovL cm) || decide (n ∈ ovL pr) || decide (n ∈ ix.1) || anyB (lkM sl n) 5) made + (cntB (dvB sg cm) made + cntB (fun n => dvB sg pr n && !(dvB sg cm n && svB f sg n)) made) := by
    rw [cntB_smN, cntB_smN, cntB_smN, ← smN_2, ← smN_2]
    rfl
  rw [eA, eB, eC, eR, eS, eS]
  omega

