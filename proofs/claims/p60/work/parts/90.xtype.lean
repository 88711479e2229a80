/-! the class: type -/
section XT
variable {S : cS} {dp : Nat}
theorem q_type {Q : Int32 → cS → Prop} {x L p n y : Nat} {P : Nat → Nat} (hx : cA S x 11) (hl : cr S 352 x = some L) (hL : cA S L 3) (hp : cr S 96 L = some p) (ht : tSg S p n P) (hy : 32 ≤ y ∧ y ≤ 126) (hn : n < 40) (h : ∀ T, (∃ a, cr S 288 p = some a ∧ cSub S T (fun z => z = p ∨ z = a)) → tSg T p (n + 1) (upR P n y) → (∀ q, q ≠ 289 → ci T q p = ci S q p) → (∀ q, cr T q p = cr S q p) → Q (nI (n + 1)) T) : k_X11_type Q dp x (nI y) S := by
  unfold k_X11_type
  refine ⟨fun c => absurd ((nI_ltI (by omega) (by decide)).mp c) (by omega), fun _ => ⟨fun _ => ⟨hx, L, hl, hL, p, hp, ht.1, fun _ => ⟨hx, L, hl, hL, p, hp, ht.1, q_putSign ht hn (by omega) h⟩, fun c => ?_⟩, fun c => absurd ((nI_leI (by omega) (by decide)).mpr hy.2) c⟩⟩
  rw [ht.2.2.1] at c
  exact c ((nI_ltI (by omega) (by decide)).mpr hn)
/-- a sign out of range -/
theorem x_type1 {Q : cS → Prop} {x y mc ms : Nat} (hy : y < 2 ^ 31) (h : ¬ (32 ≤ y ∧ y ≤ 126)) (hm : 1 ≤ mc) (hs : 6 ≤ ms) (hq : Q S) : kx_X11_type "java/lang/IllegalArgumentException" Q dp mc ms x (nI y) S := by
  unfold kx_X11_type
  refine ⟨fun _ => ⟨rfl, ⟨by omega, by omega⟩, hq⟩, fun c => ⟨fun d => ?_, fun _ => ⟨rfl, ⟨by omega, by omega⟩, hq⟩⟩⟩
  have c1 := mt (nI_ltI hy (by decide)).mpr c
  have d1 := (nI_leI hy (by decide)).mp d
  exact absurd (show 32 ≤ y ∧ y ≤ 126 by omega) h
/-- a full pad -/
theorem x_type2 {Q : cS → Prop} {x L p y mc ms : Nat} {P : Nat → Nat} (hx : cA S x 11) (hl : cr S 352 x = some L) (hL : cA S L 3) (hp : cr S 96 L = some p) (ht : tSg S p 40 P) (hy : 32 ≤ y ∧ y ≤ 126) (hm : 1 ≤ mc) (hs : 6 ≤ ms) (hq : Q S) : kx_X11_type "java/lang/IllegalStateException" Q dp mc ms x (nI y) S := by
  unfold kx_X11_type
  refine ⟨fun c => absurd ((nI_ltI (by omega) (by decide)).mp c) (by omega), fun _ => ⟨fun _ => ⟨hx, L, hl, hL, p, hp, ht.1, fun c => ?_, fun _ => ⟨rfl, ⟨by omega, by omega⟩, hq⟩⟩, fun c => absurd ((nI_leI (by omega) (by decide)).mpr hy.2) c⟩⟩
  rw [ht.2.2.1] at c
  exact absurd ((nI_ltI (by decide) (by decide)).mp c) (by omega)
end XT
