/-! the reference: a merge ends -/
theorem cutM_get {ids : List Nat} {p made a n : Nat} (hp : p ≤ ids.length) (h : (ids.take p ++ made :: ids.drop (p + 3))[a]? = some n) : (a < p ∧ ids[a]? = some n) ∨ (a = p ∧ n = made) ∨ (p < a ∧ ids[a + 2]? = some n) := by
  have lt : (ids.take p).length = p := by rw [List.length_take]; omega
  by_cases c : a < p
  · rw [List.getElem?_append_left (by omega), List.getElem?_take, if_pos c] at h
    exact Or.inl ⟨c, h⟩
  · rw [List.getElem?_append_right (by omega), lt] at h
    by_cases c2 : a = p
    · subst c2
      rw [Nat.sub_self] at h
      exact Or.inr (Or.inl ⟨rfl, (Option.some.inj h).symm⟩)
    · obtain ⟨m, hm⟩ : ∃ m, a - p = m + 1 := ⟨a - p - 1, by omega⟩
      rw [hm, List.getElem?_cons_succ, List.getElem?_drop] at h
      refine Or.inr (Or.inr ⟨by omega, ?_⟩)
      rw [show a + 2 = p + 3 + m by omega]; exact h
theorem cut3_get {ids : List Nat} {p a n : Nat} (hp : p ≤ ids.length) (h : (ids.take p ++ ids.drop (p + 3))[a]? = some n) : (a < p ∧ ids[a]? = some n) ∨ (p ≤ a ∧ ids[a + 3]? = some n) := by
  have lt : (ids.take p).length = p := by rw [List.length_take]; omega
  by_cases c : a < p
  · rw [List.getElem?_append_left (by omega), List.getElem?_take, if_pos c] at h
    exact Or.inl ⟨c, h⟩
  · rw [List.getElem?_append_right (by omega), lt, List.getElem?_drop] at h
    refine Or.inr ⟨by omega, ?_⟩
    rw [show a + 3 = p + 3 + (a - p) by omega]; exact h
def dfD : Dc := ((0, 0, 0), [], [])
theorem gD_get {L : List Dc} {k : Nat} (h : k < L.length) : L[k]? = some (L.getD k dfD) := by
  rw [List.getD_eq_getElem?_getD, List.getElem?_eq_getElem h]; rfl
/-- the documents at some places -/
def dcA (sg : Nat → List Dc) (mp : List (Nat × Nat)) : List Dc := mp.map (fun y => (sg y.1).getD y.2 dfD)
def lvM (made : Nat) (mp : List (Nat × Nat)) (lv : Nat → Nat → Bool) : Nat → Nat → Bool := fun n j => if n = made then lv (mp.getD j (0, 0)).1 (mp.getD j (0, 0)).2 else lv n j
def hdM (made : Nat) (mp : List (Nat × Nat)) (hd : Nat → Nat → Nat) : Nat → Nat → Nat := upR hd made (fun j => hd (mp.getD j (0, 0)).1 (mp.getD j (0, 0)).2)
theorem gP_get {mp : List (Nat × Nat)} {q : Nat} (h : q < mp.length) : mp[q]? = some (mp.getD q (0, 0)) := gH_get h
