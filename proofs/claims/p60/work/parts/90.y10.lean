/-! the reference: a text is told -/
section RT
variable {v : Nat → Int32} {f : Nat → Nat → Int32} {g : Nat → Nat → Int64}
theorem syL_s {F S : Nat → Int64} {s : Int64} {p i : Nat} : (syL F S s p (i + 1)).length = (syL F S s p i).length + (if gvB F S i s = true then 1 else 0) := by
  rw [syL, List.length_append]
  by_cases c : gvB F S i s = true
  · rw [if_pos c, if_pos c]; rfl
  · rw [if_neg c, if_neg c]; rfl
theorem tkL_s {F S : Nat → Int64} {yn : Nat} {stp : Int64 → Bool} {st : Nat → Int64} {k : Nat} : (tkL F S yn stp st (k + 1)).length = (tkL F S yn stp st k).length + (if stp (st k) = true then 0 else 1 + (syL F S (st k) k yn).length) := by
  rw [tkL, List.length_append]
  by_cases c : stp (st k) = true
  · rw [if_pos c, if_pos c]; rfl
  · rw [if_neg c, if_neg c, List.length_cons, Nat.add_comm 1]
end RT
