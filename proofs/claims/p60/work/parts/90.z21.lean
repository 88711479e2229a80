/-! the reference: sorting -/
theorem mtL_filter {sg : Nat → List Dc} {f : Nat → Nat → Bool} {P : Nat × Nat → Bool} : ∀ ids : List Nat, mtL sg (fun n j => f n j && P (n, j)) ids = (mtL sg f ids).filter P
  | [] => rfl
  | n :: ids => by
    have ih := mtL_filter (sg := sg) (f := f) (P := P) ids
    have e : ∀ k, fndJ (fun j => f n j && P (n, j)) n k = (fndJ (f n) n k).filter P := by
      intro k
      induction k with
      | zero => rfl
      | succ k ihk =>
        rw [fndJ, fndJ, List.filter_append, ihk]
        congr 1
        cases f n k with
        | false => rfl
        | true =>
          rw [Bool.true_and, if_pos rfl, List.filter_cons, List.filter_nil]
    unfold mtL at ih ⊢
    rw [List.flatMap_cons, List.flatMap_cons, List.filter_append, ih]
    congr 1
    exact e _
theorem mtQ_filter {sg : Nat → List Dc} {s : Vw} {e : Nat × (Nat → Nd)} : mtQ sg s e = (mtL sg s.2 s.1).filter (fun y => mtB e (sg y.1) y.2) := by
  unfold mtQ
  exact mtL_filter (P := fun y => mtB e (sg y.1) y.2) s.1
def ltB (dn : Bool) (a b : Nat) : Bool := if dn = true then decide (b < a) else decide (a < b)
theorem ltB_t {dn : Bool} {a b : Nat} : ltB dn a b = true ↔ if dn = true then b < a else a < b := by
  unfold ltB
  cases dn <;> simp
theorem ltB_f {dn : Bool} {a b : Nat} : ltB dn a b = false ↔ if dn = true then a ≤ b else b ≤ a := by
  unfold ltB
  cases dn <;> simp
/-- indices sorted -/
def srW (N : Nat → Nat) (dn : Bool) (k : Nat) (W : List Nat) : Prop := W.Perm (List.range k) ∧ (∀ (p i : Nat), W[p]? = some i → splN N dn k i = p) ∧ ∀ (p p' i i' : Nat), p < p' → W[p]? = some i → W[p']? = some i' → ltB dn (N i') (N i) = false
theorem cntB_range {P : Nat → Bool} : ∀ k : Nat, cntB P k = (List.range k).countP P
  | 0 => rfl
  | k + 1 => by
    rw [cntB, List.range_succ, List.countP_append, cntB_range k]
    congr 1
    rw [List.countP_cons, List.countP_nil, Nat.zero_add]
theorem srW_ins {N : Nat → Nat} {dn : Bool} {k p0 : Nat} {W : List Nat} (h : srW N dn k W) (hp : p0 ≤ k) (h1 : ∀ p i, p < p0 → W[p]? = some i → ltB dn (N k) (N i) = false) (h2 : ∀ p i, p0 ≤ p → W[p]? = some i → ltB dn (N k) (N i) = true) : srW N dn (k + 1) (W.take p0 ++ k :: W.drop p0) := by
  obtain ⟨a1, a2, a3⟩ := h
  have wl : W.length = k := by rw [a1.length_eq, List.length_range]
  have hpW : p0 ≤ W.length := by omega
  have lt : ∀ {p i : Nat}, W[p]? = some i → i < k := fun {p i} hi => List.mem_range.mp (a1.mem_iff.mp (List.mem_of_getElem? hi))
  have sp : ∀ i, splN N dn (k + 1) i = splN N dn k i + if gaB dn (N k) (N i) k i = true then 1 else 0 := fun i => rfl
  have gk : ∀ i, i < k → gaB dn (N k) (N i) k i = ltB dn (N k) (N i) := fun i hi => by
    unfold gaB ltB
    rw [decide_eq_false (show ¬ k < i by omega), Bool.and_false, Bool.or_false]
  have gj : ∀ j, j < k → gaB dn (N j) (N k) j k = !ltB dn (N k) (N j) := fun j hj => by
    unfold gaB ltB
    rw [decide_eq_true hj, Bool.and_true, Bool.eq_iff_iff, Bool.or_eq_true, Bool.not_eq_true']
    cases dn <;> simp <;> omega
  refine ⟨?_, fun p i hi => ?_, fun p p' i i' hpp hi hi' => ?_⟩
  · rw [List.range_succ]
    refine (List.perm_middle).trans ?_
    rw [List.take_append_drop]
    exact (List.Perm.cons k a1).trans (List.perm_append_singleton k (List.range k)).symm
  · rcases (insA_get hpW).mp hi with ⟨c, hi⟩ | ⟨rfl, rfl⟩ | ⟨c, hi⟩
    · rw [sp, gk i (lt hi), h1 p i c hi, a2 p i hi]; rfl
    · rw [sp]
      have e1 : gaB dn (N i) (N i) i i = false := by
        unfold gaB
        cases dn <;> simp
      rw [e1]
      show splN N dn i i + 0 = p
      rw [Nat.add_zero]
      unfold splN
      rw [cntB_ext (h := fun j => !ltB dn (N i) (N j)) (fun j hj => gj j hj), cntB_range, ← a1.countP_eq]
      conv => lhs; rw [← List.take_append_drop p W]
      rw [List.countP_append]
      have c1 : (W.take p).countP (fun j => !ltB dn (N i) (N j)) = (W.take p).length := List.countP_eq_length.mpr (fun j hj => by
        obtain ⟨q, hq⟩ := List.mem_iff_getElem?.mp hj
        have ql := get_lt hq
        rw [List.length_take] at ql
        rw [List.getElem?_take_of_lt (by omega)] at hq
        rw [h1 q j (by omega) hq]; rfl)
      have c2 : (W.drop p).countP (fun j => !ltB dn (N i) (N j)) = 0 := List.countP_eq_zero.mpr (fun j hj => by
        obtain ⟨q, hq⟩ := List.mem_iff_getElem?.mp hj
        rw [List.getElem?_drop] at hq
        rw [h2 (p + q) j (by omega) hq]; decide)
      rw [c1, c2, List.length_take]; omega
    · rw [sp, gk i (lt hi), h2 (p - 1) i (by omega) hi, a2 (p - 1) i hi, if_pos rfl]; omega
  · rcases (insA_get hpW).mp hi with ⟨c, hi⟩ | ⟨rfl, rfl⟩ | ⟨c, hi⟩
    · rcases (insA_get hpW).mp hi' with ⟨c', hi'⟩ | ⟨rfl, rfl⟩ | ⟨c', hi'⟩
      · exact a3 p p' i i' hpp hi hi'
      · exact h1 p i c (by assumption)
      · exact a3 p (p' - 1) i i' (by omega) hi hi'
    · rcases (insA_get hpW).mp hi' with ⟨c', hi'⟩ | ⟨rfl, rfl⟩ | ⟨c', hi'⟩
      · omega
      · omega
      · have := h2 (p' - 1) i' (by omega) hi'
        rw [ltB_t] at this
        rw [ltB_f]
        cases dn <;> simp at this ⊢ <;> omega
    · rcases (insA_get hpW).mp hi' with ⟨c', hi'⟩ | ⟨rfl, rfl⟩ | ⟨c', hi'⟩
      · omega
      · omega
      · exact a3 (p - 1) (p' - 1) i i' (by omega) hi hi'
