/-! the class: a write; a new segment -/
/-- the machine went DOWN -/
def dnT (S T : cS) (ρ ρ' : Nat → Nat) (dp : Nat) (so : Nat → Nat) (sd : Nat → List Nat) (sg : Nat → List Dc) (x fd w : Nat) : Prop := fr S T ρ ρ' [1, 7, 14, 21] ∧ gBf T ρ' dp x [] ∧ gSn T ρ' dp x [] ∧ (∃ V, cr T 355 x = some V ∧ ∀ lv, gVw T ρ' dp so sd sg 9 10 V [] lv) ∧ (cr T 356 x = none ∧ cr T 359 x = none) ∧ (ci T 357 x = nI 0 ∧ ci T 368 x = nI w ∧ ci T 369 x = cIn none ∧ ci T 370 x = bI true) ∧ (∀ q, q ∉ [357, 368, 369, 370] → ci T q x = ci S q x) ∧ (∀ q, q ∉ [355, 356, 359] → cr T q x = cr S q x) ∧ (ρ' x = 1 ∧ ρ' fd = 21) ∧ (ci T 33 fd = nI 0 ∧ ci T 36 fd = nI 0 ∧ ci T 37 fd = nI 0 ∧ ci T 38 fd = nI 0) ∧ (∀ q, q ∉ [33, 36, 37, 38] → ci T q fd = ci S q fd) ∧ ∀ q, cr T q fd = cr S q fd
/-- j writes were done -/
def wrT (S T : cS) (ρ : Nat → Nat) (x w : Nat) (cc : Option Nat) (j : Nat) : Prop := fr S T ρ ρ [1] ∧ (∀ q, q ∉ [368, 369] → ci T q x = ci S q x) ∧ (∀ q, cr T q x = cr S q x) ∧ ci T 368 x = nI (w + j) ∧ ci T 369 x = cIn (cc.map (fun k => k - j)) ∧ ∀ k, cc = some k → j ≤ k
section DW
variable {S T U : cS} {ρ ρ' : Nat → Nat} {dp x fd w j : Nat} {B : List Dc} {so : Nat → Nat} {sd : Nat → List Nat} {sg : Nat → List Dc} {cc : Option Nat}
theorem dnT_pre (hx : cA S x 11) (hf : cA S fd 1) (hfρ : ρ fd = 21) (h : wrT S T ρ x w cc j) (g : dnT T U ρ ρ' dp so sd sg x fd (w + j)) : dnT S U ρ ρ' dp so sd sg x fd (w + j) := by
  obtain ⟨h1, h2, h3, h4, h5, h6⟩ := h
  obtain ⟨g1, g2, g3, g4, g5, g6, g7, g8, g9, g10, g11, g12⟩ := g
  have nf : ρ fd ∉ [1] := by rw [hfρ]; decide
  refine ⟨fr_tr (fr_wk h1 (fun τ hτ => by rw [List.mem_singleton.mp hτ]; decide)) g1 (fun _ _ z => z), g2, g3, g4, g5, g6, fun q hq => (g7 q hq).trans (h2 q (fun z => hq ?_)), fun q hq => (g8 q hq).trans (h3 q), g9, g10, fun q hq => (g11 q hq).trans (fr_ci h1 hf nf), fun q => (g12 q).trans (fr_cr h1 hf nf)⟩
  rcases List.mem_cons.mp z with e | e
  · rw [e]; decide
  · rw [List.mem_singleton.mp e]; decide
theorem wrT_0 (h1 : ci S 368 x = nI w) (h2 : ci S 369 x = cIn cc) : wrT S S ρ x w cc 0 := ⟨fr_rf, fun _ _ => rfl, fun _ => rfl, h1, by
  rw [h2]
  cases cc <;> rfl, fun k _ => Nat.zero_le k⟩
/-- one write more, or DOWN in place of it -/
theorem g_doWrite {Q : Int32 → cS → Prop} {mc ms : Nat} {l : List Nat} (hx : cA S x 11) (hρ : ρ x = 1) (gb : gBf S ρ dp x B) (gn : gSn S ρ dp x l) (hf : cr S 365 x = some fd) (fA : cA S fd 1) (fρ : ρ fd = 21) (hdp : dpO dp S) (hT : wrT S T ρ x w cc j) (hcc : ∀ k, cc = some k → k ≤ 1000) (hm : cc = some j → 2 ≤ mc) (hs : cc = some j → 5 ≤ ms) (h1 : ∀ U, (∀ k, cc = some k → j < k) → wrT S U ρ x w cc (j + 1) → Q (bI true) U) (h2 : ∀ U ρ', cc = some j → dnT S U ρ ρ' dp so sd sg x fd (w + j) → Q (bI false) U) : k_X11_doWrite Q dp mc ms x T := by
  obtain ⟨t1, t2, t3, t4, t5, t6⟩ := id hT
  have xT := fr_A t1 hx
  have nf : ρ fd ∉ [1] := by rw [fρ]; decide
  have fin : ∀ U1 U : cS, fr T U1 ρ ρ [1] → (∀ q, q ≠ 369 → ci U1 q x = ci T q x) → (∀ q, cr U1 q x = cr T q x) → ci U1 369 x = cIn (cc.map (fun k => k - (j + 1))) → (∀ k, cc = some k → j < k) → U = cSi U1 368 x (nI (w + j) + nI 1) → Q (bI true) U := by
    intro U1 U f1 i1 r1 c1 hk e
    rw [nI_add] at e
    have f2 : fr U1 U ρ ρ [1] := ⟨e ▸ sub_Si (F := fun a => ρ a ∈ [1]) (by rw [hρ]; decide), fun _ _ _ => rfl⟩
    refine h1 U hk ⟨fr_tr (fr_tr t1 f1 (fun _ _ z => z)) f2 (fun _ _ z => z), fun q hq => ?_, fun q => (hr_Si e (r1 q)).trans (t3 q), hi_Si_s e, hi_Si_q e (by decide) c1, fun k hk' => hk k hk'⟩
    have n1 : q ≠ 368 := fun z => hq (by rw [z]; decide)
    have n2 : q ≠ 369 := fun z => hq (by rw [z]; decide)
    exact (hi_Si_q e n1 (i1 q n2)).trans (t2 q hq)
  unfold k_X11_doWrite k_X11_doWrite_30
  rw [t5]
  refine ⟨xT, fun c => ⟨xT, fun c2 => ⟨xT, xT, fun U e => ?_⟩, fun c2 => ⟨xT, xT, fun U1 e1 => ?_⟩⟩, fun c => ⟨xT, mc, ms, by omega, by omega, ?_⟩⟩
  · have hn : cc = none := by
      cases hcc' : cc with
      | none => rfl
      | some k =>
        rw [hcc'] at c c2
        have hk := hcc k hcc'
        have c2' := (nI_leI (a := k - j) (b := 0) (by omega) (by decide)).mp c2
        exact absurd (show nI (k - j) = 0 by rw [show k - j = 0 by omega]; rfl) c
    rw [t4] at e
    refine ⟨⟨by omega, by omega⟩, fin T U fr_rf (fun _ _ => rfl) (fun _ => rfl) (by rw [t5, hn]; rfl) (fun k hk => by rw [hn] at hk; exact absurd hk (by simp)) e⟩
  · cases hcc' : cc with
    | none =>
      rw [hcc'] at c2
      exact absurd (show (-1 : Int32) ≤ 0 by decide) c2
    | some k =>
      have hk := hcc k hcc'
      have hjk : j < k := by
        rcases Nat.lt_or_ge j k with z | z
        · exact z
        · exfalso
          rw [hcc'] at c2
          exact c2 (by show nI (k - j) ≤ 0; rw [show k - j = 0 by omega]; decide)
      have e1' : cIn (cc.map (fun k => k - j)) - nI 1 = nI (k - (j + 1)) := by
        rw [hcc']
        show nI (k - j) - nI 1 = _
        rw [pk_sub (by omega)]; congr 1
      rw [e1'] at e1
      have f1 : fr T U1 ρ ρ [1] := ⟨e1 ▸ sub_Si (F := fun a => ρ a ∈ [1]) (by rw [hρ]; decide), fun _ _ _ => rfl⟩
      have x1 := fr_A f1 xT
      refine ⟨x1, x1, fun U e => ⟨⟨by omega, by omega⟩, ?_⟩⟩
      rw [show ci U1 368 x = nI (w + j) from hi_Si_q e1 (by decide) t4] at e
      refine fin U1 U f1 (fun q hq => hi_Si_q e1 hq rfl) (fun q => hr_Si e1 rfl) ?_ (fun k' hk' => ?_) e
      · rw [hcc']; exact hi_Si_s e1
      · rw [hcc'] at hk'
        rw [← Option.some.inj hk']; exact hjk
  · have hk : cc = some j := by
      cases hcc' : cc with
      | none =>
        rw [hcc'] at c
        exact absurd c (show ¬ (-1 : Int32) = 0 by decide)
      | some k =>
        rw [hcc'] at c
        have hk := hcc k hcc'
        have h6 := t6 k hcc'
        have := (nI_z (x := k - j) (by omega)).mp c
        congr 1; omega
    have gbT := gBf_fr t1 (by decide) (by decide) (t3 _) gb
    have gnT := gSn_fr t1 (by decide) (t3 _) gn
    refine q_goDown (so := so) (sd := sd) (sg := sg) xT hρ gbT gnT ((t3 _).trans hf) (fr_A t1 fA) fρ dp_O (hm hk) (hs hk) (fun U ρ' V d1 d2 d3 d4 d5 d6 d7 d8 d9 d10 d11 d12 d13 d14 d15 d16 d17 d18 d19 d20 => ⟨⟨by omega, by omega⟩, h2 U ρ' hk (dnT_pre hx fA fρ hT ?_)⟩)
    refine ⟨d1, d2, d3, ⟨V, d5, d4⟩, ⟨d6, d7⟩, ⟨d8, (d11 _ (by decide) (by decide) (by decide)).trans t4, d9, d10⟩, fun q hq => d11 q (fun z => hq (by rw [z]; decide)) (fun z => hq (by rw [z]; decide)) (fun z => hq (by rw [z]; decide)), fun q hq => d12 q (fun z => hq (by rw [z]; decide)) (fun z => hq (by rw [z]; decide)) (fun z => hq (by rw [z]; decide)), ⟨d13, d14⟩, ⟨d15, d16, d17, d18⟩, fun q hq => d19 q (fun z => hq (by rw [z]; decide)) (fun z => hq (by rw [z]; decide)) (fun z => hq (by rw [z]; decide)) (fun z => hq (by rw [z]; decide)), d20⟩
end DW
