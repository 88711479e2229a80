/-! tags: which part of the machine a cell belongs to -/
/-- only cells with these tags were written, or belong elsewhere now -/
def fr (S T : cS) (ρ ρ' : Nat → Nat) (M : List Nat) : Prop := cSub S T (fun a => ρ a ∈ M) ∧ ∀ a, a ∈ cL S → ρ a ∉ M → ρ' a = ρ a
/-- new cells get new tags -/
def rtg (S : cS) (φ ρ : Nat → Nat) (τ : Nat) : Nat → Nat := fun a => if a ∈ cL S then φ (ρ a) else τ
theorem tg_n {τ c : Nat} {M : List Nat} (e : c = τ) (hm : τ ∉ M) : c ∉ M := by rw [e]; exact hm
section TG
variable {S T U : cS} {ρ ρ' ρ'' : Nat → Nat} {M N : List Nat}
theorem fr_rf : fr S S ρ ρ M := ⟨sub_rf, fun _ _ _ => rfl⟩
theorem fr_tr (h : fr S T ρ ρ' M) (g : fr T U ρ' ρ'' N) (hM : ∀ a, a ∈ cL S → ρ' a ∈ N → ρ a ∈ M) : fr S U ρ ρ'' M := by
  refine ⟨sub_tr h.1 g.1 hM, fun a ha hm => ?_⟩
  rw [g.2 a (h.1 a ha).1.1 (fun z => hm (hM a ha z)), h.2 a ha hm]
theorem fr_wk (h : fr S T ρ ρ' M) (hM : ∀ τ, τ ∈ M → τ ∈ N) : fr S T ρ ρ' N := ⟨sub_wk h.1 (fun _ _ z => hM _ z), fun a ha hm => h.2 a ha (fun z => hm (hM _ z))⟩
theorem rtg_o {φ : Nat → Nat} {τ a : Nat} (h : a ∈ cL S) : rtg S φ ρ τ a = φ (ρ a) := if_pos h
theorem rtg_n {φ : Nat → Nat} {τ a : Nat} (h : a ∉ cL S) : rtg S φ ρ τ a = τ := if_neg h
theorem fr_A {a k : Nat} (h : fr S T ρ ρ' M) (ha : cA S a k) : cA T a k := sub_A1 h.1 ha
theorem fr_ci {a k q : Nat} (h : fr S T ρ ρ' M) (ha : cA S a k) (hm : ρ a ∉ M) : ci T q a = ci S q a := sub_ci h.1 ha hm
theorem fr_cr {a k q : Nat} (h : fr S T ρ ρ' M) (ha : cA S a k) (hm : ρ a ∉ M) : cr T q a = cr S q a := sub_cr h.1 ha hm
/-- a text, its cells, with one tag -/
def gTx (S : cS) (ρ : Nat → Nat) (τ t n : Nat) (P : Nat → Nat) : Prop := tSg S t n P ∧ (∃ m l, tTk S t m l) ∧ ρ t = τ ∧ (∀ z, tF S t z → ρ z = τ) ∧ ∃ a, cr S 288 t = some a ∧ ρ a = τ ∧ cr S 291 t ≠ some a
theorem tF_in {t m z : Nat} {l : List (Int64 × Nat)} (h : tTk S t m l) (hz : tF S t z) : z ∈ cL S := by
  obtain ⟨h1, h2, h3, h4, b, d, b1, b2, b3, d1, d2, d3, hx⟩ := h
  rcases hz with z1 | z1 | z1
  · exact z1 ▸ h1.1
  · exact Option.some.inj (b1.symm.trans z1) ▸ b2.1
  · exact Option.some.inj (d1.symm.trans z1) ▸ d2.1
theorem gTx_sub {F : Nat → Prop} {τ τ' t n : Nat} {P : Nat → Nat} (h : cSub S T F) (hF : ∀ a, a ∈ cL S → ρ a = τ → ¬ F a ∧ ρ' a = τ') (g : gTx S ρ τ t n P) : gTx T ρ' τ' t n P := by
  obtain ⟨g1, ⟨m, l, g2⟩, g3, g4, a, a1, a2, a3⟩ := g
  have ft := hF t g2.1.1 g3
  obtain ⟨-, -, -, a', q1, q2, -⟩ := id g1
  obtain rfl : a = a' := Option.some.inj (a1.symm.trans q1)
  have r : ∀ q, cr T q t = cr S q t := fun q => sub_cr h g2.1 ft.1
  have fz : ∀ z, tF S t z → ¬ F z ∧ ρ' z = τ' := fun z hz => hF z (tF_in g2 hz) (g4 z hz)
  refine ⟨tSg_sub h g1 ft.1 (fun b hb => ?_), ⟨m, l, tTk_sub h g2 (fun z hz => (fz z hz).1)⟩, ft.2, fun z hz => ?_, a, (r _).trans a1, (hF a q2.1 a2).2, by rw [r]; exact a3⟩
  · obtain rfl : a = b := Option.some.inj (a1.symm.trans hb)
    exact (hF a q2.1 a2).1
  · unfold tF at hz
    rw [r, r] at hz
    exact (fz z hz).2
theorem gTx_fr {τ t n : Nat} {P : Nat → Nat} (h : fr S T ρ ρ' M) (hm : τ ∉ M) (g : gTx S ρ τ t n P) : gTx T ρ' τ t n P :=
  gTx_sub h.1 (fun a ha (e : ρ a = τ) => ⟨tg_n e hm, (h.2 a ha (tg_n e hm)).trans e⟩) g
theorem gTx_new {τ t : Nat} {P : Nat → Nat} (h : tNew S T t) (ht : t ∉ cL S) (hρ : ∀ a, a ∉ cL S → ρ a = τ) : gTx T ρ τ t 0 P := by
  obtain ⟨h1, h2, h3, a, b, c, ⟨n1, n2, n3⟩, ⟨a1, a2, a3⟩, ⟨b1, b2, b3⟩, ⟨c1, c2, c3⟩, hac⟩ := id h
  refine ⟨tNew_sg h, ⟨0, [], h1, h3, Nat.le_refl _, by omega, b, c, b1, b2, b3, c1, c2, c3, fun k x hk => absurd (get_lt hk) (Nat.not_lt_zero k)⟩, hρ t ht, fun z hz => ?_, a, a1, hρ a n1, fun z => hac (Option.some.inj (c1.symm.trans z)).symm⟩
  rcases hz with z1 | z1 | z1
  · rw [z1]; exact hρ t ht
  · rw [← Option.some.inj (b1.symm.trans z1)]; exact hρ b n2
  · rw [← Option.some.inj (c1.symm.trans z1)]; exact hρ c n3
/-- a text was made to tokens -/
theorem gTx_tok {τ t n m' : Nat} {P : Nat → Nat} {F : Nat → Prop} {l' : List (Int64 × Nat)} (g : gTx S ρ τ t n P) (h : cSub S T F) (hF : ∀ a, F a → ρ a = τ → tF S t a) (hk : tTk T t m' l') (h2 : ∀ z, tF T t z → tF S t z ∨ z ∉ cL S) (h3 : ∀ q, q ≠ 292 → ci T q t = ci S q t) (h4 : ∀ q, q ≠ 290 → q ≠ 291 → cr T q t = cr S q t) : gTx T (rtg S id ρ τ) τ t n P := by
  obtain ⟨g1, ⟨m, l, g2⟩, g3, g4, a, a1, a2, a3⟩ := g
  obtain ⟨t1, t2, t3, a', q1, q2, q3, q4⟩ := id g1
  obtain rfl : a = a' := Option.some.inj (a1.symm.trans q1)
  have na : ¬ tF S t a := by
    obtain ⟨-, -, -, -, b, d, b1, b2, -⟩ := g2
    rintro (z | z | z)
    · exact cA_ne q2 t1 (by decide) z
    · obtain rfl : b = a := Option.some.inj (b1.symm.trans z)
      exact cA_ne q2 b2 (by decide) rfl
    · exact a3 z
  have fa : ¬ F a := fun z => na (hF a z a2)
  have o : ∀ z, z ∈ cL S → rtg S id ρ τ z = ρ z := fun z hz => rtg_o hz
  refine ⟨⟨sub_A1 h t1, t2, (h3 _ (by decide)).trans t3, a, (h4 _ (by decide) (by decide)).trans a1, sub_A1 h q2, (sub_cn h q2).trans q3, by rw [sub_cI h q2 fa]; exact q4⟩, ⟨m', l', hk⟩, (o t t1.1).trans g3, fun z hz => ?_, a, (h4 _ (by decide) (by decide)).trans a1, (o a q2.1).trans a2, fun z => ?_⟩
  · rcases h2 z hz with y | y
    · exact (o z (tF_in g2 y)).trans (g4 z y)
    · exact rtg_n y
  · rcases h2 a (Or.inr (Or.inr z)) with y | y
    · exact na y
    · exact y q2.1
/-- the language with its tags -/
def gLg (S : cS) (ρ : Nat → Nat) (L ks : Nat) (A : Nat → Int64) (yn : Nat) (F G : Nat → Int64) (ad : Bool) : Prop := lGd S L ks A yn F G ∧ ci S 104 L = bI ad ∧ ∀ z, lF S L z → ρ z = 2
theorem lF_in {L ks yn z : Nat} {A F G : Nat → Int64} (h : lGd S L ks A yn F G) (hz : lF S L z) : z ∈ cL S := by
  obtain ⟨h1, h2, h3, w, a, b, c, ⟨w1, w2, w3⟩, ⟨a1, a2, a3, a4⟩, ⟨b1, b2, b3, b4⟩, ⟨c1, c2, c3, c4⟩, hd⟩ := h
  rcases hz with y | y | y | y | y
  · exact y ▸ h1.1
  · exact Option.some.inj (w1.symm.trans y) ▸ w2.1
  · exact Option.some.inj (a1.symm.trans y) ▸ a2.1
  · exact Option.some.inj (b1.symm.trans y) ▸ b2.1
  · exact Option.some.inj (c1.symm.trans y) ▸ c2.1
theorem gLg_fr {L ks yn : Nat} {A F G : Nat → Int64} {ad : Bool} (h : fr S T ρ ρ' M) (hm : 2 ∉ M) (g : gLg S ρ L ks A yn F G ad) : gLg T ρ' L ks A yn F G ad := by
  obtain ⟨g1, g2, g3⟩ := g
  have fz : ∀ z, lF S L z → ρ z ∉ M := fun z hz => by rw [g3 z hz]; exact hm
  have fL := fz L (Or.inl rfl)
  refine ⟨lGd_sub h.1 g1 fz, (fr_ci h g1.1 fL).trans g2, fun z hz => ?_⟩
  unfold lF at hz
  simp only [fun q => fr_cr (q := q) h g1.1 fL] at hz
  exact (h.2 z (lF_in g1 hz) (fz z hz)).trans (g3 z hz)
/-- the draft with its texts -/
def gDr (S : cS) (ρ : Nat → Nat) (D : Nat) (c0 c1 : Int32) (n0 : Nat) (P0 : Nat → Nat) (n1 : Nat) (P1 : Nat → Nat) : Prop := cA S D 0 ∧ ρ D = 4 ∧ ci S 1 D = c0 ∧ ci S 2 D = c1 ∧ ∃ t0 t1, cr S 3 D = some t0 ∧ cr S 4 D = some t1 ∧ gTx S ρ 5 t0 n0 P0 ∧ gTx S ρ 6 t1 n1 P1
theorem gDr_fr {D n0 n1 : Nat} {c0 c1 : Int32} {P0 P1 : Nat → Nat} (h : fr S T ρ ρ' M) (h4 : 4 ∉ M) (h5 : 5 ∉ M) (h6 : 6 ∉ M) (g : gDr S ρ D c0 c1 n0 P0 n1 P1) : gDr T ρ' D c0 c1 n0 P0 n1 P1 := by
  obtain ⟨g1, g2, g3, g4, t0, t1, r0, r1, x0, x1⟩ := g
  have fD : ρ D ∉ M := by rw [g2]; exact h4
  exact ⟨fr_A h g1, (h.2 D g1.1 fD).trans g2, (fr_ci h g1 fD).trans g3, (fr_ci h g1 fD).trans g4, t0, t1, (fr_cr h g1 fD).trans r0, (fr_cr h g1 fD).trans r1, gTx_fr h h5 x0, gTx_fr h h6 x1⟩
end TG
