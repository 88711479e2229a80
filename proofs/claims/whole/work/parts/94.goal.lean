/-! the goal: nothing of the machine -/
def cE0 : cS := ([], fun _ => 0, fun _ _ => 0, fun _ _ => none, fun _ _ => 0, fun _ => 0, fun _ _ => 0, fun _ _ => 0, fun _ _ => none)
def lGoal (xs : Nat → Int32) (L : Nat) : Prop := ∀ dp x : Nat, k_X11_init (fun S => ∀ (v : Nat → Int32) (f : Nat → Nat → Int32) (g : Nat → Nat → Int64), mFr v f g → ∀ out : Nat, out ∉ cL S → ∀ S2 : cS, S2 = cNewA S out 15 1 → lw_loop xs L dp x out (nI 0) 174 409927 S2 v f g) dp 107 6671 x (cNew cE0 x 11)
theorem lgoal_all (xs : Nat → Int32) (L : Nat) (hL : L ≤ 3072) : lGoal xs L := fun _ _ => lg_all xs hL ⟨hm_No rfl, hk_No rfl⟩
