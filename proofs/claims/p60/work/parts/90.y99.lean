/-! the reference: the words of a segment -/
theorem pw_get {W : List Int64} (h : W.Pairwise (fun x y => x.toInt < y.toInt)) {a b : Nat} {x y : Int64} (hab : a < b) (hx : W[a]? = some x) (hy : W[b]? = some y) : x.toInt < y.toInt := by
  obtain ⟨h1, e1⟩ := List.getElem?_eq_some_iff.mp hx
  obtain ⟨h2, e2⟩ := List.getElem?_eq_some_iff.mp hy
  rw [← e1, ← e2]
  exact List.pairwise_iff_getElem.mp h a b h1 h2 hab
theorem pw_nd {W : List Int64} (h : W.Pairwise (fun x y => x.toInt < y.toInt)) : W.Nodup := h.imp (fun {a b} hab e => by rw [e] at hab; omega)
/-- words found: a set T of them, in a row that is sorted -/
def fdW (v : Nat → Int32) (g : Nat → Nat → Int64) (T : Int64 → Prop) : Prop := ∃ W : List Int64, v 55 = nI W.length ∧ (∀ k x, W[k]? = some x → g 35 k = x) ∧ W.Pairwise (fun x y => x.toInt < y.toInt) ∧ ∀ x, x ∈ W ↔ T x
theorem fdW_eq {v : Nat → Int32} {g : Nat → Nat → Int64} {T T' : Int64 → Prop} (h : fdW v g T) (e : ∀ x, T x ↔ T' x) : fdW v g T' := by
  obtain ⟨W, h1, h2, h3, h4⟩ := h
  exact ⟨W, h1, h2, h3, fun x => (h4 x).trans (e x)⟩
section FD
variable {v v' : Nat → Int32} {f f' : Nat → Nat → Int32} {g g' : Nat → Nat → Int64} {l : LGt} {made dn op : Nat} {sg : Nat → List Dc} {hd : Nat → Nat → Nat} {ids : List Nat} {lv : Nat → Nat → Bool} {off : Bool} {WL : List Int64} {T : Int64 → Prop}
theorem rLg_fr (h1 : v' 9 = v 9) (h2 : v' 6 = v 6) (h3 : g' 4 = g 4) (h4 : g' 5 = g 5) (h5 : g' 6 = g 6) (h : rLg v g l) : rLg v' g' l := by
  unfold rLg
  rw [h1, h2, h3, h4, h5]; exact h
end FD
