/-! the class: query keeps the object's numbers -/
section QRI
variable {S T U : cS} {ρ ρ' ρ'' : Nat → Nat} {dp x n m : Nat} {nd : Nat → Nd} {qs : List (Nat × (Nat → Nd))}
theorem g_queryI {Q : Int32 → cS → Prop} {mc ms : Nat} (hx : cA S x 11) (hρ : ρ x = 1) (g : gPr S ρ dp x m nd) (gl : gQl S ρ dp x qs) (h1 : (qsS nd m).1 = 1) (h40 : qs.length < 40) (hdp : dpO dp S) (hm : 10 ≤ mc) (hs : 300 ≤ ms) (h : ∀ U ρ', fr S U ρ ρ' [1, 12, 13, 16] → (∀ z, z ≠ 362 → cr U z x = cr S z x) → (∀ z, ci U z x = ci S z x) → ρ' x = 1 → (∀ nd : Nat → Nd, gPr U ρ' dp x 0 nd) → gQl U ρ' dp x (qs ++ [(m, nd)]) → Q (nI qs.length) U) : k_X11_query Q dp mc ms x S := by
  obtain ⟨q, e, gq⟩ := id g
  obtain ⟨ql, l, lm, el, l1, l2, l3, l4, l5⟩ := id gl
  have hll := parL_len l5
  obtain ⟨z1, z2, z3, z4, z5⟩ := gwL_b l1.2.2.1 l3 l4 (Nat.le_refl _) (by omega)
  unfold k_X11_query
  refine ⟨hx, q, e, gq.1, ?_⟩
  rw [gq.2.2.1, h1]
  refine ⟨fun c => absurd rfl c, fun _ => ⟨hx, ql, el, l1.1, ⟨by omega, by omega⟩, q_lsize l1 (pk_lt l.length 40 (fun _ => ?_) (fun z => absurd z (by omega)))⟩⟩
  refine ⟨hx, ql, el, hx, q, e, l1.1, 1, 130, by omega, by omega, q_ladd hdp l1 z5 gq.1 z1 z2 (fun S8 v8 t8 => ⟨⟨by omega, by omega⟩, fun q9 hq9 S10 e10 => ⟨4, 22, by omega, by omega, ?_⟩⟩)⟩
  obtain ⟨ρ8, hρ8⟩ : ∃ r, r = rtg S id ρ 16 := ⟨_, rfl⟩
  have o8 : ∀ a, a ∈ cL S → ρ8 a = ρ a := fun a ha => by rw [hρ8]; exact rtg_o ha
  have f8 : fr S S8 ρ ρ8 [16] := ⟨sub_wk v8.1 (fun z _ hz => by rw [l2 z hz]; decide), fun a ha _ => o8 a ha⟩
  have x8 := fr_A f8 hx
  have ρx8 : ρ8 x = 1 := (o8 x hx.1).trans hρ
  have dp8 : dpO dp S := dp_O
  refine q_qInit hq9 e10 dp8 (Nat.le_refl _) (Nat.le_refl _) (fun T b s hb gn => ⟨sub_A1 s x8, fun U eU => ?_⟩)
  obtain ⟨f, gp, r, ρx⟩ := g_newParts (κ := 17) x8 ρx8 s hb gn eU
  have fAll : fr S U ρ (ptg S8 ρ8 17 b) [1, 12, 13, 16] := fr_mix (fr_up f8 rfl) (fr_up f rfl)
  have s2 : cSub T U (fun z => z = x) := eU ▸ sub_Sr rfl
  have s8U : cSub S8 U (fun z => z = x) := sub_tr (sub_wk s (fun _ _ z => z.elim)) s2 (fun _ _ z => z)
  have tU : lsT U dp ql 6 (l ++ [q]) (gwL lm l.length) := lsT_sub s8U t8 (fun z hz => ls_nk t8 hz x8 (by decide) (by decide))
  have rU : ∀ z, z ≠ 362 → cr U z x = cr S z x := fun z hz => (r z hz).trans (fr_cr f8 hx (by rw [hρ]; decide))
  have Fq : ∀ z, lsF U dp ql z ↔ lsF S8 dp ql z := fun z => lsF_eq s8U t8 (cA_ne t8.1 x8 (by decide))
  refine ⟨sub_A1 s2 (sub_A1 s x8), ql, (rU _ (by decide)).trans el, tU.1, ⟨by omega, by omega⟩, q_lsize tU ⟨⟨by omega, by omega⟩, ?_⟩⟩
  rw [List.length_append, show l.length + [q].length = l.length + 1 from rfl, pk_sub (by omega), Nat.add_sub_cancel, hll]
  refine h U _ fAll rU (fun z => ((show ci U z x = ci T z x by rw [eU]; rfl).trans (sub_ci s x8 (fun z => z))).trans (fr_ci f8 hx (by rw [hρ]; decide))) ρx gp ⟨ql, l ++ [q], _, (rU _ (by decide)).trans el, tU, fun z hz => ?_, z3, by rw [List.length_append]; exact z4, parL_snoc (parL_imp (fun q' e' g' => ?_) l5) ?_⟩
  · have hz8 := (Fq z).mp hz
    have t16 : ρ8 z = 16 := by
      rcases v8.2 z hz8 with w | w
      · exact (o8 z (lsF_in l1 w)).trans (l2 z w)
      · rw [hρ8]; exact rtg_n w
    exact (ptg_o (lsF_in t8 hz8) (by rw [t16]; decide) (by rw [t16]; decide)).trans t16
  · exact gQy_f fAll (by decide) (by decide) (by decide) g'
  · -- the old parts are a query now
    have f8q := gQy_f f8 (by decide) (by decide) (by decide) gq
    obtain ⟨ρt, hρt⟩ : ∃ r : Nat → Nat, r = fun a => if ρ8 a = 12 ∨ ρ8 a = 13 then 17 else ρ8 a := ⟨_, rfl⟩
    have gT : gQy S8 ρt dp 17 17 q m nd := gQz_tg (fun a ha => by rw [hρt]; exact if_pos (Or.inr ha)) (fun a ha => by rw [hρt]; exact if_pos (Or.inl ha)) (fun a ha => by rw [hρt]; exact (if_neg (by rw [ha]; decide)).trans ha) f8q
    have ρtx : ρt x = 1 := by rw [hρt]; exact (if_neg (by rw [ρx8]; decide)).trans ρx8
    have fT : fr S8 U ρt (ptg S8 ρ8 17 b) [1] := ⟨sub_wk s8U (fun z _ hz => by rw [hz, ρtx]; decide), fun a ha _ => by unfold ptg; rw [if_pos ha, hρt]⟩
    exact gQy_f fT (by decide) (by decide) (by decide) gT
end QRI
