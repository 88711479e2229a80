/-! the reference: beginnings, patterns, edits -/
theorem w_N1 {b : Bool} {A B : Prop} (f : b = false → A) (g : b = true → B) : (¬ bI b = nI 1 → A) ∧ (bI b = nI 1 → B) := by
  cases b with
  | false => exact ⟨fun _ => f rfl, fun c => absurd c (by decide)⟩
  | true => exact ⟨fun c => absurd rfl c, fun _ => g rfl⟩
theorem w_P1 {b : Bool} {A B : Prop} (f : b = true → A) (g : b = false → B) : (bI b = nI 1 → A) ∧ (¬ bI b = nI 1 → B) := by
  cases b with
  | false => exact ⟨fun c => absurd c (by decide), fun _ => g rfl⟩
  | true => exact ⟨fun _ => f rfl, fun c => absurd rfl c⟩
/-- a word begins with another one -/
noncomputable def bgB (w u : Nat) : Bool := allB (fun k => dg w k == dg u k) (lnW u)
theorem mt_ns {pt w : Nat → Nat} {L : Nat} (hn : ∀ k, k < L → pt k ≠ 38 ∧ pt k ≠ 37) : ∀ k, k ≤ L → ∀ j, mtR pt w k j = (decide (j = k) && allB (fun i => w i == pt i) k) := by
  intro k
  induction k with
  | zero => intro _ j; rw [mtR]; simp [allB]
  | succ k ih =>
    intro hk j
    obtain ⟨h1, h2⟩ := hn k (by omega)
    cases j with
    | zero => rw [mt_0, decide_eq_false h1, decide_eq_false (show ¬ 0 = k + 1 by omega)]; rfl
    | succ j =>
      rw [mt_sn h1, ih (by omega), decide_eq_false h2, Bool.false_or, allB_s]
      by_cases c : j = k
      · subst c
        rw [decide_eq_true rfl, decide_eq_true rfl, Bool.true_and, Bool.true_and]
        congr 1
        by_cases e : pt j = w j
        · rw [decide_eq_true e, e]; simp
        · rw [decide_eq_false e]
          have : (w j == pt j) = false := by simpa using fun q => e q.symm
          rw [this]
      · rw [decide_eq_false c, decide_eq_false (show ¬ j + 1 = k + 1 by omega)]; rfl
theorem mt_pre {pt w : Nat → Nat} {L : Nat} (hn : ∀ k, k < L → pt k ≠ 38 ∧ pt k ≠ 37) (h38 : pt L = 38) : ∀ j, mtR pt w (L + 1) j = (decide (L ≤ j) && allB (fun i => w i == pt i) L) := by
  intro j
  induction j with
  | zero =>
    rw [mt_0, decide_eq_true h38, Bool.true_and, mt_ns hn L (Nat.le_refl L)]
    congr 1
    by_cases c : L = 0
    · subst c; rfl
    · rw [decide_eq_false (fun e => c e.symm), decide_eq_false (by omega)]
  | succ j ih =>
    rw [mt_s38 h38, ih, mt_ns hn L (Nat.le_refl L)]
    by_cases c : j + 1 = L
    · rw [decide_eq_true c, decide_eq_false (show ¬ L ≤ j by omega), decide_eq_true (show L ≤ j + 1 by omega), Bool.false_and, Bool.or_false]
    · rw [decide_eq_false c, Bool.false_and, Bool.false_or]
      by_cases c2 : L ≤ j
      · rw [decide_eq_true c2, decide_eq_true (show L ≤ j + 1 by omega)]
      · rw [decide_eq_false c2, decide_eq_false (show ¬ L ≤ j + 1 by omega)]
theorem ptA_pre {d : Nd} (hk : nK d = 3) : (ptN d).length = lnW (nW d) + 1 ∧ (∀ k, k < lnW (nW d) → ptA d k = dg (nW d) k) ∧ ptA d (lnW (nW d)) = 38 := by
  have e : ptN d = (List.range (lnW (nW d))).map (dg (nW d)) ++ [38] := by unfold ptN; rw [if_pos hk]
  refine ⟨by rw [e, List.length_append, List.length_map, List.length_range]; rfl, fun k hk' => ?_, ?_⟩
  · unfold ptA
    rw [e, List.getD_eq_getElem?_getD, List.getElem?_append_left (by rw [List.length_map, List.length_range]; exact hk'), List.getElem?_map, List.getElem?_range hk']
    rfl
  · unfold ptA
    rw [e, List.getD_eq_getElem?_getD, List.getElem?_append_right (by rw [List.length_map, List.length_range]; exact Nat.le_refl _), List.length_map, List.length_range, Nat.sub_self]
    rfl
theorem tdB_3 {d : Nd} {w : Nat} (hk : nK d = 3) : tdB d w = bgB w (nW d) := by
  obtain ⟨h1, h2, h3⟩ := ptA_pre hk
  have hns : ∀ k, k < lnW (nW d) → ptA d k ≠ 38 ∧ ptA d k ≠ 37 := fun k hk' => by
    rw [h2 k hk']
    have := dg_lt (nW d) k
    omega
  unfold tdB
  rw [if_neg (by omega), h1, mt_pre hns h3]
  have eA : allB (fun i => dg w i == ptA d i) (lnW (nW d)) = bgB w (nW d) := by
    unfold bgB
    rw [Bool.eq_iff_iff, allB_iff, allB_iff]
    constructor
    · intro h i hi
      have := h i hi
      rwa [h2 i hi] at this
    · intro h i hi
      rw [h2 i hi]; exact h i hi
  rw [eA]
  cases hb : bgB w (nW d) with
  | false => rw [Bool.and_false]
  | true =>
    rw [Bool.and_true]
    refine decide_eq_true ?_
    have hall := allB_iff.mp hb
    by_cases c : lnW w < lnW (nW d)
    · exfalso
      have e1 := hall (lnW w) c
      rw [beq_iff_eq] at e1
      have e2 := lnW_end (w := w) (by have := lnW_le (nW d); omega)
      have e3 := lnW_pos (w := nW d) c
      omega
    · omega
section BG
variable {v v' : Nat → Int32} {f f' : Nat → Nat → Int32} {g g' : Nat → Nat → Int64} {w u : Nat}
/-- rows are scratch -/
def rS2 (f f' : Nat → Nat → Int32) : Prop := ∀ n, n ≠ 52 → n ≠ 53 → f' n = f n
end BG
