/-! the class: scrap keeps the object's numbers -/
section SCI
variable {S T U : cS} {ρ ρ' : Nat → Nat} {dp x m : Nat} {nd : Nat → Nd}
theorem g_scrapI {Q : Int32 → cS → Prop} {mc ms : Nat} (hx : cA S x 11) (hρ : ρ x = 1) (g : gPr S ρ dp x m nd) (hdp : dpO dp S) (hm : 5 ≤ mc) (hs : 27 ≤ ms) (h : ∀ U ρ', fr S U ρ ρ' [1, 12, 13] → (∀ z, z ≠ 362 → cr U z x = cr S z x) → (∀ z, ci U z x = ci S z x) → ρ' x = 1 → (∀ nd : Nat → Nd, gPr U ρ' dp x 0 nd) → Q (nI (qsS nd m).1) U) : k_X11_scrap Q dp mc ms x S := by
  obtain ⟨q, e, gq⟩ := id g
  unfold k_X11_scrap
  refine ⟨hx, q, e, gq.1, ?_⟩
  rintro _ rfl
  refine ⟨⟨by omega, by omega⟩, fun q3 hq3 S4 e4 => ⟨4, 22, by omega, by omega, q_qInit hq3 e4 hdp (Nat.le_refl _) (Nat.le_refl _) (fun T b s hb gn => ⟨sub_A1 s hx, fun U eU => ⟨⟨by omega, by omega⟩, ?_⟩⟩)⟩⟩
  obtain ⟨f, gp, r, ρx⟩ := g_newParts (κ := 99) hx hρ s hb gn eU
  rw [gq.2.2.1]
  exact h U _ f r (fun z => (show ci U z x = ci T z x by rw [eU]; rfl).trans (sub_ci s hx (fun z => z))) ρx gp
end SCI
