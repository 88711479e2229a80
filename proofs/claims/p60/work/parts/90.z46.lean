/-! both worlds together: look -/
theorem fm_ext {α : Type} {p q : Nat → Option α} : ∀ {l : List Nat}, (∀ a, a ∈ l → p a = q a) → l.filterMap p = l.filterMap q
  | [], _ => rfl
  | a :: l, h => by
    rw [List.filterMap_cons, List.filterMap_cons, h a List.mem_cons_self, fm_ext (l := l) (fun b hb => h b (List.mem_cons_of_mem _ hb))]
theorem fm_up {α : Type} {sl : Nat → Option α} {a : Nat} {z : α} (hn : sl a = none) : ∀ {l : List Nat}, l.Nodup → a ∈ l → (l.filterMap (upR sl a (some z))).Perm (z :: l.filterMap sl)
  | [], _, h => absurd h List.not_mem_nil
  | b :: l, hd, h => by
    obtain ⟨h1, h2⟩ := List.nodup_cons.mp hd
    by_cases c : b = a
    · subst c
      have e : l.filterMap (upR sl b (some z)) = l.filterMap sl := by
        exact fm_ext (fun q hq => upR_n (fun e => h1 (e ▸ hq)))
      rw [List.filterMap_cons, List.filterMap_cons, upR_s, hn, e]
    · have ha : a ∈ l := by
        rcases List.mem_cons.mp h with w | w
        · exact absurd w.symm c
        · exact w
      have ih := fm_up (z := z) hn h2 ha
      rw [List.filterMap_cons, List.filterMap_cons, upR_n c]
      cases sl b with
      | none => exact ih
      | some y => exact (List.Perm.cons y ih).trans (List.Perm.swap z y _)
theorem fm_full {α : Type} {sl : Nat → Option α} : ∀ {l : List Nat}, (l.filterMap sl).length ≤ l.length ∧ ((l.filterMap sl).length = l.length → ∀ a, a ∈ l → sl a ≠ none)
  | [] => ⟨Nat.le_refl _, fun _ a h => absurd h List.not_mem_nil⟩
  | b :: l => by
    obtain ⟨h1, h2⟩ := fm_full (sl := sl) (l := l)
    rw [List.filterMap_cons]
    cases e : sl b with
    | none =>
      refine ⟨by show (l.filterMap sl).length ≤ l.length + 1; omega, fun w => ?_⟩
      have w : (l.filterMap sl).length = l.length + 1 := w
      omega
    | some y =>
      refine ⟨by show (l.filterMap sl).length + 1 ≤ l.length + 1; omega, fun w a ha => ?_⟩
      have w : (l.filterMap sl).length + 1 = l.length + 1 := w
      rcases List.mem_cons.mp ha with rfl | ha
      · rw [e]; simp
      · exact h2 (by omega) a ha
theorem fm_all {α : Type} {sl : Nat → Option α} : ∀ {l : List Nat}, (∀ a, a ∈ l → sl a ≠ none) → (l.filterMap sl).length = l.length
  | [], _ => rfl
  | b :: l, h => by
    have ih := fm_all (sl := sl) (l := l) (fun a ha => h a (List.mem_cons_of_mem _ ha))
    rw [List.filterMap_cons]
    cases e : sl b with
    | none => exact absurd e (h b List.mem_cons_self)
    | some y => show (l.filterMap sl).length + 1 = l.length + 1; rw [ih]
