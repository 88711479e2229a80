/-! the reference: passages -/
section PC
variable {v v' : Nat → Int32} {f f' : Nat → Nat → Int32} {g g' : Nat → Nat → Int64}
/-- the choice rows alone were written -/
def psF (f f' : Nat → Nat → Int32) : Prop := ∀ n, n ∉ [62, 63, 64] → f' n = f n
theorem psF_rf : psF f f := fun _ _ => rfl
theorem psF_tr {f'' : Nat → Nat → Int32} (h : psF f f') (h2 : psF f' f'') : psF f f'' := fun n hn => (h2 n hn).trans (h n hn)
theorem psL_at {sp : Nat → Option Nat} {k c : Nat} {l : List Nat} (h : spOk sp k) (hc : 1 ≤ c) (hno : ∀ c', 1 ≤ c' → c' < c → fpN sp (mkF sp k) c' [] = none) (hl : fpN sp (mkF sp k) c [] = some l) : psL sp (mkF sp k) = l := by
  have m0 : mkF sp k ≠ 0 := by
    intro e
    rw [fpN_0, e] at hl
    have : plc 0 20 0 = [] := List.eq_nil_iff_forall_not_mem.mpr (fun p hp => by
      have := (plc_mem.mp hp).2.2
      rw [Nat.zero_testBit] at this; exact absurd this (by decide))
    rw [this, cmbL_few c [] (by show 0 < c; omega)] at hl
    exact absurd hl (by simp)
  obtain ⟨c4, h1, h2, h3⟩ := cov4 h m0
  unfold psL
  rw [if_neg m0]
  refine psG_some hl hc ?_ (fun c' a b => hno c' a b)
  rcases Nat.lt_or_ge c 5 with z | z
  · omega
  · exact absurd (hno c4 h1 (by omega)) h3
theorem psL_no {sp : Nat → Option Nat} {k n : Nat} (hn : (plc (mkF sp k) 20 0).length = n) (hno : ∀ c', 1 ≤ c' → c' ≤ n → fpN sp (mkF sp k) c' [] = none) : psL sp (mkF sp k) = [] := by
  unfold psL
  split
  · rfl
  · refine psG_none (fun c' a b => ?_)
    rcases Nat.lt_or_ge n c' with z | z
    · rw [fpN_0, cmbL_few c' _ (by omega)]; rfl
    · exact hno c' a z
theorem chT_at {n : Nat} {e : Option (List Nat)} : ∀ {l : List (List Nat)} {i : Nat} {x : List Nat}, chT n l e → l[i]? = some x → nxC n x = (match l[i + 1]? with
    | none => e
    | some y => some y)
  | [], i, x, _, h => absurd (get_lt h) (Nat.not_lt_zero i)
  | [a], 0, x, h, hx => by
    have : a = x := Option.some.inj hx
    rw [← this]; exact h.1
  | a :: b :: l, 0, x, h, hx => by
    have : a = x := Option.some.inj hx
    rw [← this]; exact h.1
  | a :: l, i + 1, x, h, hx => chT_at (l := l) (i := i) h.2 hx
theorem find_at {α : Type} {G : α → Bool} {x : α} : ∀ {C : List α} {i : Nat}, (∀ i' d, i' < i → C[i']? = some d → G d = false) → C[i]? = some x → G x = true → C.find? G = some x
  | [], i, _, h, _ => absurd (get_lt h) (Nat.not_lt_zero i)
  | a :: C, 0, _, h, hg => by
    have : a = x := Option.some.inj h
    rw [List.find?_cons, this, hg]
  | a :: C, i + 1, hb, h, hg => by
    rw [List.find?_cons, hb 0 a (by omega) rfl]
    exact find_at (C := C) (i := i) (fun i' d h1 h2 => hb (i' + 1) d (by omega) h2) h hg
end PC
