/-! the class: wipe -/
section WP
variable {S : cS} {dp : Nat}
theorem q_wipe {Q : Int32 → cS → Prop} {x L p n mc ms : Nat} {P : Nat → Nat} (hx : cA S x 11) (hl : cr S 352 x = some L) (hL : cA S L 3) (hp : cr S 96 L = some p) (ht : tSg S p n P) (hm : 4 ≤ mc) (hs : 45 ≤ ms) (h : ∀ T q, q ∉ cL S → cSub S T (fun a => a = L) → cr T 96 L = some q → (∀ p', p' ≠ 96 → cr T p' L = cr S p' L) → (∀ p', ci T p' L = ci S p' L) → tNew S T q → Q (nI n) T) : k_X11_wipe Q dp mc ms x S := by
  have hpA := ht.1
  have hne : ¬ p = L := cA_ne hpA hL (by decide)
  unfold k_X11_wipe
  refine ⟨hx, L, hl, hL, 4, 45, by omega, by omega, q_takePad hL hp (by omega) (by omega) ?_⟩
  intro T q hq s h1 h2 h3 h4
  refine ⟨sub_A1 s hpA, ⟨by omega, by omega⟩, ?_⟩
  rw [sub_ci s hpA hne, ht.2.2.1]
  exact h T q hq s h1 h2 h3 h4
end WP
