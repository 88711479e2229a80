/-! the class: a document is added -/
theorem tNew_wk {S S' T : cS} {t : Nat} (h : ∀ a, a ∈ cL S → a ∈ cL S') (g : tNew S' T t) : tNew S T t := by
  obtain ⟨h1, h2, h3, a, b, c, ⟨n1, n2, n3⟩, r⟩ := g
  exact ⟨h1, h2, h3, a, b, c, ⟨fun z => n1 (h a z), fun z => n2 (h b z), fun z => n3 (h c z)⟩, r⟩
section AD
variable {S T : cS} {ρ ρ' : Nat → Nat} {dp x n : Nat} {P : Nat → Nat} {ks : Nat} {A : Nat → Int64} {yn : Nat} {F G : Nat → Int64} {ad : Bool}
theorem g_tok {Q : cS → Prop} {L t κ mc ms : Nat} (gl : gLg S ρ L ks A yn F G ad) (gp : gTx S ρ κ t n P) (hκ : κ ≠ 2) (hm : 222 ≤ mc) (hs : 1776 ≤ ms) (h : ∀ T m', fr S T ρ (rtg S id ρ κ) [2, κ] → gLg T (rtg S id ρ κ) L ks A yn F G ad → (∀ q, q ≠ 98 → ci T q L = ci S q L) → (∀ q, cr T q L = cr S q L) → gTx T (rtg S id ρ κ) κ t n P → tTk T t m' (tkL F G yn (fun c => anyB (fun j => A j == c) ks) (fun k => lN (stW (wdW P n k))) (wdC P n)) → Q T) : k_X3_tokenise Q dp mc ms L t (nI 1) S := by
  obtain ⟨m, l, tk1⟩ := gp.2.1
  show k_X3_tokenise Q dp mc ms L t (bI true) S
  have hd : ∀ z, lF S L z → ¬ tF S t z := fun z hz hz2 => by
    have a1 := gl.2.2 z hz
    have a2 := gp.2.2.2.1 z hz2
    exact hκ (a2.symm.trans a1)
  refine q_tokenise gl.1 gp.1 tk1 hd hm hs (fun T2 m' s2 g2 i2 r2 tk2 z2 ti2 tr2 => ?_)
  rw [if_pos rfl] at tk2
  have lwF : ∀ a, lw S L a → ρ a = 2 := fun a ha => gl.2.2 a (ha.elim Or.inl (fun y => Or.inr (Or.inl y)))
  have f2 : fr S T2 ρ (rtg S id ρ κ) [2, κ] := ⟨sub_wk s2 (fun a _ h => by
    rcases h with h | h
    · rw [lwF a h]; exact List.mem_cons_self ..
    · rw [gp.2.2.2.1 a h]; exact List.mem_cons_of_mem _ (List.mem_cons_self ..)), fun a ha _ => rtg_o ha⟩
  exact h T2 m' f2 (gLg_tok (m' := m') (t := t) (l' := l) gl g2 i2 r2) i2 r2 (gTx_tok gp s2 (fun a ha hk => ha.elim (fun y => absurd ((lwF a y).symm.trans hk) (fun e => hκ e.symm)) id) tk2 z2 ti2 tr2) tk2
theorem q_docInit {Q : cS → Prop} {D mc ms : Nat} {P0 P1 : Nat → Nat} (hD : cA S D 0) (hρ : ρ D = 4) (hm : 8 ≤ mc) (hs : 90 ≤ ms) (h : ∀ T ρ', cSub S T (fun z => z = D) → (∀ a, a ∈ cL S → ρ' a = ρ a) → gDr T ρ' D (nI 0) (nI 0) 0 P0 0 P1 → Q T) : k_X0_init Q dp mc ms D S := by
  unfold k_X0_init
  refine ⟨hD, fun S1 e1 => ?_⟩
  have s1 : cSub S S1 (fun z => z = D) := e1 ▸ sub_Si rfl
  refine ⟨sub_A1 s1 hD, fun S2 e2 => ?_⟩
  have s2 : cSub S S2 (fun z => z = D) := sub_tr s1 (e2 ▸ sub_Si (F := fun z => z = D) rfl) (fun _ _ z => z)
  refine ⟨sub_A1 s2 hD, fun S3 e3 => ?_⟩
  have s3 : cSub S S3 (fun z => z = D) := sub_tr s2 (e3 ▸ sub_Si (F := fun z => z = D) rfl) (fun _ _ z => z)
  refine ⟨⟨by omega, by omega⟩, fun q4 hq4 S5 e5 => ⟨3, 40, by omega, by omega, ?_⟩⟩
  have s5 : cSub S3 S5 (fun _ => False) := e5 ▸ sub_N hq4
  refine q_textInit ⟨hm_No e5, hk_No e5⟩ (Nat.le_refl _) (Nat.le_refl _) (fun S8 s8 n8 => ?_)
  have s38 : cSub S3 S8 (fun _ => False) := sub_tr s5 s8 (fun a ha z => absurd z (cm_nq hq4 ha))
  have D3 := sub_A1 s3 hD
  have D8 := sub_A1 s38 D3
  refine ⟨D8, fun S9 e9 => ⟨⟨by omega, by omega⟩, fun q10 hq10 S11 e11 => ⟨3, 40, by omega, by omega, ?_⟩⟩⟩
  have s9 : cSub S8 S9 (fun z => z = D) := e9 ▸ sub_Sr rfl
  have s11 : cSub S9 S11 (fun _ => False) := e11 ▸ sub_N hq10
  refine q_textInit ⟨hm_No e11, hk_No e11⟩ (Nat.le_refl _) (Nat.le_refl _) (fun S14 s14 n14 => ?_)
  have s914 : cSub S9 S14 (fun _ => False) := sub_tr s11 s14 (fun a ha z => absurd z (cm_nq hq10 ha))
  have D9 := sub_A1 s9 D8
  have D14 := sub_A1 s914 D9
  refine ⟨D14, fun S15 e15 => ⟨⟨by omega, by omega⟩, ?_⟩⟩
  have s15 : cSub S14 S15 (fun z => z = D) := e15 ▸ sub_Sr rfl
  have nf : ¬ False := fun z => z
  have sAll : cSub S S15 (fun z => z = D) := sub_tr (sub_tr (sub_tr (sub_tr s3 (sub_wk s38 (fun _ _ z => z.elim)) (fun _ _ z => z)) s9 (fun _ _ z => z)) (sub_wk s914 (fun _ _ z => z.elim)) (fun _ _ z => z)) s15 (fun _ _ z => z)
  -- tags: the first text's cells are of S8, those of the second come later
  obtain ⟨ρ1, hρ1⟩ : ∃ r, r = rtg S3 id ρ 5 := ⟨_, rfl⟩
  obtain ⟨ρ2, hρ2⟩ : ∃ r, r = rtg S9 id ρ1 6 := ⟨_, rfl⟩
  have mS : ∀ {a : Nat}, a ∈ cL S → a ∈ cL S3 := fun ha => (s3 _ ha).1.1
  have m3 : ∀ {a : Nat}, a ∈ cL S3 → a ∈ cL S9 := fun ha => (s9 _ (s38 _ ha).1.1).1.1
  have o2 : ∀ a, a ∈ cL S → ρ2 a = ρ a := fun a ha => by
    rw [hρ2, hρ1]
    exact (rtg_o (m3 (mS ha))).trans (rtg_o (mS ha))
  have i15 : ∀ q, ci S15 q D = ci S3 q D := fun q => (hi_Sr e15 rfl).trans ((sub_ci s914 D9 nf).trans ((hi_Sr e9 rfl).trans (sub_ci s38 D3 nf)))
  have t0 : gTx S8 ρ1 5 q4 0 P0 := gTx_new (tNew_wk (fun a ha => (s5 a ha).1.1) n8) hq4 (fun a ha => by rw [hρ1]; exact rtg_n ha)
  -- the first text goes on
  have t0A : cA S8 q4 9 := t0.1.1
  have nD4 : ∀ {a k : Nat}, cA S8 a k → k ≠ 0 → ¬ a = D := fun ha hk => cA_ne ha D8 hk
  have t0' : gTx S15 ρ2 5 q4 0 P0 := by
    have f : cSub S8 S15 (fun z => z = D) := sub_tr (sub_tr s9 (sub_wk s914 (fun _ _ z => z.elim)) (fun _ _ z => z)) s15 (fun _ _ z => z)
    obtain ⟨x1, ⟨m, l, x2⟩, x3, x4, a, a1, a2, a3⟩ := t0
    obtain ⟨k1, k2, k3, k4, b, d, b1, b2, b3, d1, d2, d3, hx⟩ := id x2
    obtain ⟨y1, y2, y3, a', y4, y5, y6⟩ := id x1
    obtain rfl : a = a' := Option.some.inj (a1.symm.trans y4)
    have nF : ∀ z, tF S8 q4 z → ¬ z = D := by
      rintro z (w | w | w)
      · rw [w]; exact nD4 k1 (by decide)
      · rw [← Option.some.inj (b1.symm.trans w)]; exact nD4 b2 (by decide)
      · rw [← Option.some.inj (d1.symm.trans w)]; exact nD4 d2 (by decide)
    have r : ∀ q, cr S15 q q4 = cr S8 q q4 := fun q => sub_cr f k1 (nF q4 (Or.inl rfl))
    have o : ∀ a, a ∈ cL S8 → ρ2 a = ρ1 a := fun a ha => by rw [hρ2]; exact rtg_o (s9 a ha).1.1
    refine ⟨tSg_sub f x1 (nF q4 (Or.inl rfl)) (fun c hc => by rw [← Option.some.inj (a1.symm.trans hc)]; exact nD4 y5 (by decide)), ⟨m, l, tTk_sub f x2 nF⟩, (o q4 k1.1).trans x3, fun z hz => ?_, a, (r _).trans a1, (o a y5.1).trans a2, by rw [r]; exact a3⟩
    have hz' := tF_sub f x2 nF hz
    exact (o z (tF_in x2 hz')).trans (x4 z hz')
  have t1 : gTx S14 ρ2 6 q10 0 P1 := gTx_new (tNew_wk (fun a ha => (s11 a ha).1.1) n14) hq10 (fun a ha => by rw [hρ2]; exact rtg_n ha)
  have nD14 : ∀ {a k : Nat}, cA S14 a k → k ≠ 0 → ¬ a = D := fun ha hk => cA_ne ha D14 hk
  have t1' : gTx S15 ρ2 6 q10 0 P1 := by
    refine gTx_sub s15 (fun a ha e => ⟨fun z => ?_, e⟩) t1
    rw [z, o2 D hD.1, hρ] at e
    exact absurd e (by decide)
  refine h S15 ρ2 sAll o2 ⟨sub_A1 s15 D14, (o2 D hD.1).trans hρ, (i15 _).trans (hi_Si_q e3 (by decide) (hi_Si_s e2)), (i15 _).trans (hi_Si_s e3), q4, q10, ?_, hr_Sr_s e15, t0', t1'⟩
  exact hr_Sr_q e15 (by decide) ((sub_cr s914 D9 nf).trans (hr_Sr_s e9))
end AD
