/-! the reference: flush, due, merge, giveUp -/
theorem mtL_mono {sg : Nat → List Dc} {f : Nat → Nat → Bool} {l : List Nat} (i : Nat) : (mtL sg f (l.take i)).length ≤ (mtL sg f l).length := by
  have e : mtL sg f l = mtL sg f (l.take i) ++ mtL sg f (l.drop i) := by
    unfold mtL
    rw [← List.flatMap_append, List.take_append_drop]
  rw [e, List.length_append]; omega
theorem fndJ_mono {f : Nat → Bool} {n j : Nat} : ∀ d, (fndJ f n j).length ≤ (fndJ f n (j + d)).length
  | 0 => Nat.le_refl _
  | d + 1 => by
    have := fndJ_mono (f := f) (n := n) (j := j) d
    rw [← Nat.add_assoc, fndJ, List.length_append]; omega
/-- a merge under way -/
def rMg (v : Nat → Int32) (f : Nat → Nat → Int32) (sg : Nat → List Dc) (mg : Option (Vw × Nat)) : Prop := v 49 = bI mg.isSome ∧ ∀ s c, mg = some (s, c) → v 52 = nI (mtL sg s.2 s.1).length ∧ v 53 = nI c ∧ (∀ k n, s.1[k]? = some n → f 33 k = nI n) ∧ ∀ q y, (mtL sg s.2 s.1)[q]? = some y → f 34 q = nI (100 * y.1 + y.2)
section ME
variable {v v' : Nat → Int32} {f f' : Nat → Nat → Int32} {g g' : Nat → Nat → Int64} {l : LGt} {B : List Dc} {made dn w : Nat} {sg : Nat → List Dc} {hd : Nat → Nat → Nat} {ids : List Nat} {lv : Nat → Nat → Bool} {cc : Option Nat} {off : Bool} {mg : Option (Vw × Nat)}
theorem tierN_lt (n : Nat) : tierN n < 5 := by
  unfold tierN
  repeat' split
  all_goals omega
theorem rSg_99 {t : Int32} (hs : rSg l v f g made dn sg hd) : rSg l (upd v 99 t) f g made dn sg hd := rSg_fr (A := [99]) (Fm := []) (Gm := []) ⟨fun i hi => upd_n (fun e => hi (by rw [e]; decide)), fun _ _ => rfl, fun _ _ => rfl⟩ (by decide) (by decide) (by decide) hs
theorem rIx_99 {t : Int32} (hi : rIx v f made sg ids lv) : rIx (upd v 99 t) f made sg ids lv := rIx_fr (upd_n (by decide)) rfl rfl hi
theorem rBf_99 {t : Int32} (hb : rBf l v f g B) : rBf l (upd v 99 t) f g B := rBf_fr (upd_n (by decide)) rfl rfl rfl rfl rfl hb
end ME
