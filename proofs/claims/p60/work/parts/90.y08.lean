/-! the class: stop, synonym, text, columns -/
section OP
variable {S T : cS} {ρ ρ' : Nat → Nat} {M : List Nat} {dp x n : Nat} {P : Nat → Nat} {ks : Nat} {A : Nat → Int64} {yn : Nat} {F G : Nat → Int64} {ad : Bool} {c0 c1 : Int32} {n0 : Nat} {P0 : Nat → Nat} {n1 : Nat} {P1 : Nat → Nat}
theorem q_checkN {Q : cS → Prop} {k : Nat} (hk : k < 2) (h : Q S) : k_X11_checkField Q dp (nI k) S := by
  unfold k_X11_checkField
  exact w_pos k (pk_lt k 2 (fun _ => h) (fun z => absurd z (by omega)))
theorem x_checkN {Q : cS → Prop} {y : Int32} {mc ms : Nat} (hk : ∀ k, k < 2 → y ≠ nI k) (hm : 1 ≤ mc) (hs : 6 ≤ ms) (h : Q S) : kx_X11_checkField "java/lang/IndexOutOfBoundsException" Q dp mc ms y S := by
  unfold kx_X11_checkField
  refine ⟨fun _ => ⟨rfl, ⟨by omega, by omega⟩, h⟩, fun c => ⟨fun d => ?_, fun _ => ⟨rfl, ⟨by omega, by omega⟩, h⟩⟩⟩
  obtain ⟨j, hj, rfl⟩ := nI_of c
  exact hk j ((nI_ltI hj (by decide)).mp d) rfl
theorem q_putStop {Q : Int32 → cS → Prop} {L W mc ms : Nat} (gl : gLg S ρ L ks A yn F G ad) (e98 : ci S 98 L = nI 1) (hw : ∀ w, cr S 97 L = some w → cJ S w 0 = lN W) (hW : W < 2 ^ 63) (hk : ks < 10) (hm : 4 ≤ mc) (hs : 45 ≤ ms) (h : ∀ S' T q, fr S S' ρ ρ [2] → gLg S' ρ L (if anyB (fun j => A j == lN (stW W)) ks = true then ks else ks + 1) (if anyB (fun j => A j == lN (stW W)) ks = true then A else upR A ks (lN (stW W))) yn F G ad → q ∉ cL S' → cSub S' T (fun a => a = L) → cr T 96 L = some q → (∀ q, q ≠ 96 → cr T q L = cr S' q L) → (∀ q, ci T q L = ci S' q L) → tNew S' T q → Q (nI (if anyB (fun j => A j == lN (stW W)) ks = true then ks else ks + 1)) T) : k_X3_putStop Q dp mc ms L S := by
  obtain ⟨g1, g2, g3⟩ := id gl
  obtain ⟨h1, h2, h3, w, a, b, c, ⟨w1, w2, w3⟩, ⟨a1, a2, a3, a4⟩, ⟨b1, b2, b3, b4⟩, ⟨c1, c2, c3, c4⟩, wa, wb, wc, ab, ac, bc⟩ := id g1
  have p49 : ∀ (S' : cS), fr S S' ρ ρ [2] → gLg S' ρ L (if anyB (fun j => A j == lN (stW W)) ks = true then ks else ks + 1) (if anyB (fun j => A j == lN (stW W)) ks = true then A else upR A ks (lN (stW W))) yn F G ad → k_X3_putStop_49 Q dp mc ms L 0 0 S' := by
    intro S' f gl'
    unfold k_X3_putStop_49
    refine ⟨⟨by omega, by omega⟩, fun q hq S5 e5 => ⟨3, 40, by omega, by omega, newPad gl'.1.1 hq e5 (by omega) (by omega) (fun T s d1 d2 d3 d4 => ⟨sub_A1 s gl'.1.1, ⟨by omega, by omega⟩, ?_⟩)⟩⟩
    rw [d3 100, gl'.1.2.1.1]
    exact h S' T q f gl' hq s d1 d2 d3 d4
  unfold k_X3_putStop
  refine ⟨h1, ⟨by omega, by omega⟩, q_wordAt h1 e98 (by omega) w1 w2 w3 (by omega) ?_⟩
  rw [hw w w1]
  refine ⟨⟨by omega, by omega⟩, q_stemOf hW ⟨h1, ⟨by omega, by omega⟩, q_isStop (lGd_st g1) ?_⟩⟩
  refine w_bn _ (fun s1 => p49 S fr_rf ?_) (fun s1 => ?_)
  · rw [if_pos s1, if_pos s1]; exact gl
  · rw [h2.1]
    refine ⟨h1, h1, a, a1, a2, (w_nle 10 ks (fun _ => ?_) (fun z => absurd z (by omega)) (by rw [a3]) rfl).symm⟩
    refine ⟨h1, a, a1, h1, cX_mk a2 a3 (by decide) hk rfl, ?_⟩
    intro S2 e2
    rw [nI_clamp (by omega)] at e2
    have s2 : cSub S S2 (fun z => lF S L z) := e2 ▸ sub_SJ (F := fun z => lF S L z) (Or.inr (Or.inr (Or.inl a1)))
    have i2 : ci S2 100 L = nI ks := hi_SJ e2 h2.1
    rw [i2, nI_add]
    refine ⟨sub_A1 s2 h1, sub_A1 s2 h1, ?_⟩
    intro S3 e3
    have s3 : cSub S S3 (fun z => lF S L z) := sub_tr s2 (e3 ▸ sub_Si (F := fun z => lF S L z) (Or.inl rfl)) (fun _ _ z => z)
    have r3 : ∀ q, cr S3 q L = cr S q L := fun q => hr_Si e3 (hr_SJ e2 rfl)
    have i3 : ∀ q, q ≠ 100 → ci S3 q L = ci S q L := fun q hq => hi_Si_q e3 hq (hi_SJ e2 rfl)
    have J3 : ∀ d, d ≠ a → cJ S3 d = cJ S d := fun d hd => hJ_Si e3 (hJ_SJ_n e2 hd rfl)
    refine p49 S3 ⟨sub_wk s3 (fun z _ hz => by rw [g3 z hz]; decide), fun _ _ _ => rfl⟩ ?_
    rw [if_neg (by rw [s1]; decide), if_neg (by rw [s1]; decide)]
    refine ⟨⟨sub_A1 s3 h1, ⟨hi_Si_s e3, by omega⟩, ⟨(i3 _ (by decide)).trans h3.1, h3.2⟩, w, a, b, c, ⟨(r3 _).trans w1, sub_A1 s3 w2, (sub_cn s3 w2).trans w3⟩, ⟨(r3 _).trans a1, sub_A1 s3 a2, (sub_cn s3 a2).trans a3, hJ_Si e3 (hJ_SJ_e e2 a4)⟩, ⟨(r3 _).trans b1, sub_A1 s3 b2, (sub_cn s3 b2).trans b3, (J3 b (Ne.symm ab)).trans b4⟩, ⟨(r3 _).trans c1, sub_A1 s3 c2, (sub_cn s3 c2).trans c3, (J3 c (Ne.symm ac)).trans c4⟩, wa, wb, wc, ab, ac, bc⟩, (i3 _ (by decide)).trans g2, fun z hz => ?_⟩
    unfold lF at hz
    simp only [r3] at hz
    exact g3 z hz
theorem g_stop {Q : Int32 → cS → Prop} {mc ms : Nat} {P' : Nat → Nat} (g : gLD S ρ x n P ks A yn F G ad c0 c1 n0 P0 n1 P1) (h1 : wdC P n = 1) (h2 : ks < 10) (h3 : ad = false) (hm : 4 ≤ mc) (hs : 45 ≤ ms) (h : ∀ T ρ', fr S T ρ ρ' [2, 3] → gLD T ρ' x 0 P' (if anyB (fun j => A j == lN (stW (wdW P n 0))) ks = true then ks else ks + 1) (if anyB (fun j => A j == lN (stW (wdW P n 0))) ks = true then A else upR A ks (lN (stW (wdW P n 0)))) yn F G ad c0 c1 n0 P0 n1 P1 → Q (nI (if anyB (fun j => A j == lN (stW (wdW P n 0))) ks = true then ks else ks + 1)) T) : k_X11_stop Q dp mc ms x S := by
  obtain ⟨hx, hρ, L, D, p, e1, e2, gl, ep, gp, gd⟩ := g
  unfold k_X11_stop
  refine ⟨hx, L, e1, gl.1.1, ⟨by omega, by omega⟩, g_readPad gl ep gp (fun T f gl1 ep1 gp1 e98 hw => ?_)⟩
  have xA := fr_A f hx
  have xr : ∀ q, cr T q x = cr S q x := fun q => fr_cr f hx (by rw [hρ]; decide)
  have gd1 := gDr_fr f (by decide) (by decide) (by decide) gd
  rw [h1]
  rw [h1] at e98 hw
  refine w_ne 1 1 (fun z => absurd rfl z) (fun _ => ⟨xA, L, (xr _).trans e1, gl1.1.1, ?_⟩)
  rw [gl1.1.2.1.1]
  refine pk_le 10 ks (fun z => absurd z (by omega)) (fun _ => ⟨xA, L, (xr _).trans e1, gl1.1.1, ?_⟩)
  rw [gl1.2.1]
  refine w_b0 ad (fun _ => ⟨xA, L, (xr _).trans e1, gl1.1.1, mc, ms, by omega, by omega, ?_⟩) (fun z => absurd z (by rw [h3]; decide))
  refine q_putStop gl1 e98 (fun w hw' => hw w hw' 0 (by omega)) (wdW_63 P n 0) h2 hm hs (fun S' T' q f' gl' hq s d1 d2 d3 d4 => ⟨⟨by omega, by omega⟩, ?_⟩)
  have xr' : ∀ q, cr S' q x = cr S q x := fun q => (fr_cr f' xA (by rw [hρ]; decide)).trans (xr q)
  obtain ⟨f2, g2⟩ := gLD_pad (κ := 99) (P' := P') (fr_A f' xA) hρ ((xr' _).trans e1) ((xr' _).trans e2) gl' (gDr_fr f' (by decide) (by decide) (by decide) gd1) hq s d1 d2 d3 d4
  exact h T' _ (fr_tr (fr_wk (fr_tr f f' (fun _ _ z => z)) (N := [2, 3]) (fun τ hτ => by rw [List.mem_singleton] at hτ; rw [hτ]; decide)) f2 (fun _ _ z => z)) g2
theorem x_stop {Q : cS → Prop} {mc ms : Nat} (g : gLD S ρ x n P ks A yn F G ad c0 c1 n0 P0 n1 P1) (h0 : ¬ (wdC P n = 1 ∧ ks < 10 ∧ ad = false)) (hm : 1 ≤ mc) (hs : 6 ≤ ms) (h : ∀ T, fr S T ρ ρ [2] → gLD T ρ x n P ks A yn F G ad c0 c1 n0 P0 n1 P1 → Q T) : kx_X11_stop "java/lang/IllegalStateException" Q dp mc ms x S := by
  obtain ⟨hx, hρ, L, D, p, e1, e2, gl, ep, gp, gd⟩ := g
  have hk10 : ks ≤ 10 := gl.1.2.1.2
  unfold kx_X11_stop
  refine ⟨hx, L, e1, gl.1.1, ⟨by omega, by omega⟩, g_readPad gl ep gp (fun T f gl1 ep1 gp1 e98 hw => ?_)⟩
  have xA := fr_A f hx
  have xr : ∀ q, cr T q x = cr S q x := fun q => fr_cr f hx (by rw [hρ]; decide)
  have gd1 := gDr_fr f (by decide) (by decide) (by decide) gd
  have hT : Q T := h T f ⟨xA, hρ, L, D, p, (xr _).trans e1, (xr _).trans e2, gl1, ep1, gp1, gd1⟩
  have hc : wdC P n < 2 ^ 31 := by have := wdC_le P n; have := gp.1.2.1; omega
  refine w_ne (wdC P n) 1 (fun _ => ⟨rfl, ⟨by omega, by omega⟩, hT⟩) (fun z1 => ⟨xA, L, (xr _).trans e1, gl1.1.1, ?_⟩)
  rw [gl1.1.2.1.1]
  refine pk_le 10 ks (fun _ => ⟨rfl, ⟨by omega, by omega⟩, hT⟩) (fun z2 => ⟨xA, L, (xr _).trans e1, gl1.1.1, ?_⟩)
  rw [gl1.2.1]
  exact w_b0 ad (fun z3 => absurd ⟨z1, z2, z3⟩ h0) (fun _ => ⟨rfl, ⟨by omega, by omega⟩, hT⟩)
theorem q_putPair {Q : Int32 → cS → Prop} {L W V mc ms : Nat} (gl : gLg S ρ L ks A yn F G ad) (e98 : ci S 98 L = nI 2) (hw : ∀ w, cr S 97 L = some w → cJ S w 0 = lN W ∧ cJ S w 1 = lN V) (hW : W < 2 ^ 63) (hV : V < 2 ^ 63) (hk : yn < 10) (hm : 4 ≤ mc) (hs : 45 ≤ ms) (h : ∀ S' T q, fr S S' ρ ρ [2] → gLg S' ρ L ks A (yn + 1) (upR F yn (lN (stW W))) (upR G yn (lN (stW V))) ad → q ∉ cL S' → cSub S' T (fun a => a = L) → cr T 96 L = some q → (∀ q, q ≠ 96 → cr T q L = cr S' q L) → (∀ q, ci T q L = ci S' q L) → tNew S' T q → Q (nI (yn + 1)) T) : k_X3_putPair Q dp mc ms L S := by
  obtain ⟨g1, g2, g3⟩ := id gl
  obtain ⟨h1, h2, h3, w, a, b, c, ⟨w1, w2, w3⟩, ⟨a1, a2, a3, a4⟩, ⟨b1, b2, b3, b4⟩, ⟨c1, c2, c3, c4⟩, wa, wb, wc, ab, ac, bc⟩ := id g1
  obtain ⟨ew0, ew1⟩ := hw w w1
  unfold k_X3_putPair
  rw [h3.1]
  refine ⟨h1, h1, b, b1, b2, (w_nle 10 yn (fun _ => ?_) (fun z => absurd z (by omega)) (by rw [b3]) rfl).symm⟩
  refine ⟨h1, h1, c, c1, c2, (w_nle 10 yn (fun _ => ?_) (fun z => absurd z (by omega)) (by rw [c3]) rfl).symm⟩
  refine ⟨h1, b, b1, h1, h1, ⟨by omega, by omega⟩, q_wordAt h1 e98 (by omega) w1 w2 w3 (by omega) ?_⟩
  rw [ew0]
  refine ⟨⟨by omega, by omega⟩, q_stemOf hW ⟨cX_mk b2 b3 (by decide) hk rfl, ?_⟩⟩
  intro S2 e2
  rw [nI_clamp (by omega)] at e2
  have s2 : cSub S S2 (fun z => lF S L z) := e2 ▸ sub_SJ (F := fun z => lF S L z) (Or.inr (Or.inr (Or.inr (Or.inl b1))))
  have r2 : ∀ q, cr S2 q L = cr S q L := fun q => hr_SJ e2 rfl
  have i2 : ∀ q, ci S2 q L = ci S q L := fun q => hi_SJ e2 rfl
  have h1' := sub_A1 s2 h1
  have w2' := sub_A1 s2 w2
  refine ⟨h1', c, (r2 _).trans c1, h1', h1', ⟨by omega, by omega⟩, q_wordAt h1' ((i2 _).trans e98) (by omega) ((r2 _).trans w1) w2' ((sub_cn s2 w2).trans w3) (by omega) ?_⟩
  rw [hJ_SJ_n e2 wb rfl, ew1, (i2 103).trans h3.1]
  refine ⟨⟨by omega, by omega⟩, q_stemOf hV ⟨cX_mk (sub_A1 s2 c2) ((sub_cn s2 c2).trans c3) (by decide) hk rfl, ?_⟩⟩
  intro S3 e3
  rw [nI_clamp (by omega)] at e3
  have s3 : cSub S S3 (fun z => lF S L z) := sub_tr s2 (e3 ▸ sub_SJ (F := fun z => lF S L z) (Or.inr (Or.inr (Or.inr (Or.inr c1))))) (fun _ _ z => z)
  have i3 : ∀ q, ci S3 q L = ci S q L := fun q => hi_SJ e3 (i2 q)
  rw [i3, h3.1, nI_add]
  refine ⟨sub_A1 s3 h1, sub_A1 s3 h1, ?_⟩
  intro S4 e4
  have s4 : cSub S S4 (fun z => lF S L z) := sub_tr s3 (e4 ▸ sub_Si (F := fun z => lF S L z) (Or.inl rfl)) (fun _ _ z => z)
  have r4 : ∀ q, cr S4 q L = cr S q L := fun q => hr_Si e4 (hr_SJ e3 (r2 q))
  have i4 : ∀ q, q ≠ 103 → ci S4 q L = ci S q L := fun q hq => hi_Si_q e4 hq (i3 q)
  have J4 : ∀ d, d ≠ b → d ≠ c → cJ S4 d = cJ S d := fun d hb hc => hJ_Si e4 (hJ_SJ_n e3 hc (hJ_SJ_n e2 hb rfl))
  have gl' : gLg S4 ρ L ks A (yn + 1) (upR F yn (lN (stW W))) (upR G yn (lN (stW V))) ad := by
    refine ⟨⟨sub_A1 s4 h1, ⟨(i4 _ (by decide)).trans h2.1, h2.2⟩, ⟨hi_Si_s e4, by omega⟩, w, a, b, c, ⟨(r4 _).trans w1, sub_A1 s4 w2, (sub_cn s4 w2).trans w3⟩, ⟨(r4 _).trans a1, sub_A1 s4 a2, (sub_cn s4 a2).trans a3, (J4 a ab ac).trans a4⟩, ⟨(r4 _).trans b1, sub_A1 s4 b2, (sub_cn s4 b2).trans b3, hJ_Si e4 (hJ_SJ_n e3 bc (hJ_SJ_e e2 b4))⟩, ⟨(r4 _).trans c1, sub_A1 s4 c2, (sub_cn s4 c2).trans c3, hJ_Si e4 (hJ_SJ_e e3 (hJ_SJ_n e2 (Ne.symm bc) c4))⟩, wa, wb, wc, ab, ac, bc⟩, (i4 _ (by decide)).trans g2, fun z hz => ?_⟩
    unfold lF at hz
    simp only [r4] at hz
    exact g3 z hz
  unfold k_X3_putPair_68
  refine ⟨⟨by omega, by omega⟩, fun q hq S5 e5 => ⟨3, 40, by omega, by omega, newPad gl'.1.1 hq e5 (by omega) (by omega) (fun T s d1 d2 d3 d4 => ⟨sub_A1 s gl'.1.1, ⟨by omega, by omega⟩, ?_⟩)⟩⟩
  rw [d3 103, gl'.1.2.2.1.1]
  exact h S4 T q ⟨sub_wk s4 (fun z _ hz => by rw [g3 z hz]; decide), fun _ _ _ => rfl⟩ gl' hq s d1 d2 d3 d4
theorem g_synonym {Q : Int32 → cS → Prop} {mc ms : Nat} {P' : Nat → Nat} (g : gLD S ρ x n P ks A yn F G ad c0 c1 n0 P0 n1 P1) (h1 : wdC P n = 2) (h2 : yn < 10) (h3 : ad = false) (hm : 4 ≤ mc) (hs : 45 ≤ ms) (h : ∀ T ρ', fr S T ρ ρ' [2, 3] → gLD T ρ' x 0 P' ks A (yn + 1) (upR F yn (lN (stW (wdW P n 0)))) (upR G yn (lN (stW (wdW P n 1)))) ad c0 c1 n0 P0 n1 P1 → Q (nI (yn + 1)) T) : k_X11_synonym Q dp mc ms x S := by
  obtain ⟨hx, hρ, L, D, p, e1, e2, gl, ep, gp, gd⟩ := g
  unfold k_X11_synonym
  refine ⟨hx, L, e1, gl.1.1, ⟨by omega, by omega⟩, g_readPad gl ep gp (fun T f gl1 ep1 gp1 e98 hw => ?_)⟩
  have xA := fr_A f hx
  have xr : ∀ q, cr T q x = cr S q x := fun q => fr_cr f hx (by rw [hρ]; decide)
  have gd1 := gDr_fr f (by decide) (by decide) (by decide) gd
  rw [h1]
  rw [h1] at e98 hw
  refine w_ne 2 2 (fun z => absurd rfl z) (fun _ => ⟨xA, L, (xr _).trans e1, gl1.1.1, ?_⟩)
  rw [gl1.1.2.2.1.1]
  refine pk_le 10 yn (fun z => absurd z (by omega)) (fun _ => ⟨xA, L, (xr _).trans e1, gl1.1.1, ?_⟩)
  rw [gl1.2.1]
  refine w_b0 ad (fun _ => ⟨xA, L, (xr _).trans e1, gl1.1.1, mc, ms, by omega, by omega, ?_⟩) (fun z => absurd z (by rw [h3]; decide))
  refine q_putPair gl1 e98 (fun w hw' => ⟨hw w hw' 0 (by omega), hw w hw' 1 (by omega)⟩) (wdW_63 P n 0) (wdW_63 P n 1) h2 hm hs (fun S' T' q f' gl' hq s d1 d2 d3 d4 => ⟨⟨by omega, by omega⟩, ?_⟩)
  have xr' : ∀ q, cr S' q x = cr S q x := fun q => (fr_cr f' xA (by rw [hρ]; decide)).trans (xr q)
  obtain ⟨f2, g2⟩ := gLD_pad (κ := 99) (P' := P') (fr_A f' xA) hρ ((xr' _).trans e1) ((xr' _).trans e2) gl' (gDr_fr f' (by decide) (by decide) (by decide) gd1) hq s d1 d2 d3 d4
  exact h T' _ (fr_tr (fr_wk (fr_tr f f' (fun _ _ z => z)) (N := [2, 3]) (fun τ hτ => by rw [List.mem_singleton] at hτ; rw [hτ]; decide)) f2 (fun _ _ z => z)) g2
theorem x_synonym {Q : cS → Prop} {mc ms : Nat} (g : gLD S ρ x n P ks A yn F G ad c0 c1 n0 P0 n1 P1) (h0 : ¬ (wdC P n = 2 ∧ yn < 10 ∧ ad = false)) (hm : 1 ≤ mc) (hs : 6 ≤ ms) (h : ∀ T, fr S T ρ ρ [2] → gLD T ρ x n P ks A yn F G ad c0 c1 n0 P0 n1 P1 → Q T) : kx_X11_synonym "java/lang/IllegalStateException" Q dp mc ms x S := by
  obtain ⟨hx, hρ, L, D, p, e1, e2, gl, ep, gp, gd⟩ := g
  have hk10 : yn ≤ 10 := gl.1.2.2.1.2
  unfold kx_X11_synonym
  refine ⟨hx, L, e1, gl.1.1, ⟨by omega, by omega⟩, g_readPad gl ep gp (fun T f gl1 ep1 gp1 e98 hw => ?_)⟩
  have xA := fr_A f hx
  have xr : ∀ q, cr T q x = cr S q x := fun q => fr_cr f hx (by rw [hρ]; decide)
  have gd1 := gDr_fr f (by decide) (by decide) (by decide) gd
  have hT : Q T := h T f ⟨xA, hρ, L, D, p, (xr _).trans e1, (xr _).trans e2, gl1, ep1, gp1, gd1⟩
  have hc : wdC P n < 2 ^ 31 := by have := wdC_le P n; have := gp.1.2.1; omega
  refine w_ne (wdC P n) 2 (fun _ => ⟨rfl, ⟨by omega, by omega⟩, hT⟩) (fun z1 => ⟨xA, L, (xr _).trans e1, gl1.1.1, ?_⟩)
  rw [gl1.1.2.2.1.1]
  refine pk_le 10 yn (fun _ => ⟨rfl, ⟨by omega, by omega⟩, hT⟩) (fun z2 => ⟨xA, L, (xr _).trans e1, gl1.1.1, ?_⟩)
  rw [gl1.2.1]
  exact w_b0 ad (fun z3 => absurd ⟨z1, z2, z3⟩ h0) (fun _ => ⟨rfl, ⟨by omega, by omega⟩, hT⟩)
end OP
