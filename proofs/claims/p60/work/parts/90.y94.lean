/-! the reference: prepare -/
theorem zRw_K {f f' : Nat → Nat → Int32} {n N : Nat} (h : zK f f' n) (g : zRw f n N) : zRw f' n N := fun k hk => h k (g k hk)
theorem zRw_e {f f' : Nat → Nat → Int32} {n N : Nat} (h : f' n = f n) (g : zRw f n N) : zRw f' n N := fun k hk => by rw [h]; exact g k hk
theorem lvF_o {made n j : Nat} {lv : Nat → Nat → Bool} (h : n ≠ made) : lvF made lv n j = lv n j := if_neg h
theorem lvF_m {made j : Nat} {lv : Nat → Nat → Bool} : lvF made lv made j = true := if_pos rfl
