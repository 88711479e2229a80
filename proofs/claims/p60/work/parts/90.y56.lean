/-! the class: TERM, PHRASE, NEAR, PREFIX, WILD, FUZZY -/
section QP
variable {S T U : cS} {ρ ρ' ρ'' : Nat → Nat} {dp x n m : Nat} {P : Nat → Nat} {ks : Nat} {A : Nat → Int64} {yn : Nat} {F G : Nat → Int64} {ad : Bool} {c0 c1 : Int32} {n0 : Nat} {P0 : Nat → Nat} {n1 : Nat} {P1 : Nat → Nat} {nd : Nat → Nd}
theorem mix4 {T1 T2 T3 T4 : cS} {r r1 r2 r3 r4 : Nat → Nat} (f1 : fr S T1 r r1 [2, 3]) (f2 : fr T1 T2 r1 r2 [2, 3]) (f3 : fr T2 T3 r2 r3 []) (f4 : fr T3 T4 r3 r4 [13]) : fr S T4 r r4 [2, 3, 13] := fr_mix (fr_up f1 rfl) (fr_mix (fr_up f2 rfl) (fr_mix (fr_up f3 rfl) (fr_up f4 rfl)))
theorem mix3 {T2 T3 T4 : cS} {r r2 r3 r4 : Nat → Nat} (f2 : fr S T2 r r2 [2, 3]) (f3 : fr T2 T3 r2 r3 []) (f4 : fr T3 T4 r3 r4 [13]) : fr S T4 r r4 [2, 3, 13] := fr_mix (fr_up f2 rfl) (fr_mix (fr_up f3 rfl) (fr_up f4 rfl))
theorem ndT_131 {p : Nat} {d : Nd} {b c : Bool} {κ : Nat} (e : T = cSi S 131 p (bI c)) (g : ndT S ρ κ p d b) : ndT T ρ κ p (d.1, c, d.2.2) b := by
  obtain ⟨g1, g2, ⟨i1, i2, i3, i4, i5, i6⟩, gw, gt, gg, gq, gc⟩ := g
  subst e
  exact ⟨g1, g2, ⟨(cSi_nq (by decide)).trans i1, (cSi_nq (by decide)).trans i2, (cSi_nq (by decide)).trans i3, cSi_at, (cSi_nq (by decide)).trans i5, (cSi_nq (by decide)).trans i6⟩, gw, gt, gg, gq, gc⟩
theorem g_term {Q : Int32 → cS → Prop} {f mc ms : Nat} {P' : Nat → Nat} (g : gLD S ρ x n P ks A yn F G ad c0 c1 n0 P0 n1 P1) (gp : gPr S ρ dp x m nd) (hf : f < 2) (htk : (tk0 ks A F G P n).length = 1) (h1 : (qsS nd m).1 < 8) (h2 : (lfI nd m).length < 24) (hm47 : m ≤ 47) (hn : n ≤ 40) (hdp : dpO dp S) (hm : 240 ≤ mc) (hs : 2200 ≤ ms) (h : ∀ U ρ', fr S U ρ ρ' [2, 3, 13] → gLD U ρ' x 0 P' ks A yn F G ad c0 c1 n0 P0 n1 P1 → gPr U ρ' dp x (m + 1) (upR nd m ((0, f, 0, 0), false, tk0 ks A F G P n, [], 0)) → (∀ z, cr U z x = cr S z x) → Q (nI ((qsS nd m).1 + 1)) U) : k_X11_term Q dp mc ms x (nI f) S := by
  have hx := g.1
  have hρ := g.2.1
  obtain ⟨L, e1, gl⟩ : ∃ L, cr S 352 x = some L ∧ cA S L 3 := by
    obtain ⟨-, -, L, D, p, e1, -, gl, -⟩ := g
    exact ⟨L, e1, gl.1.1⟩
  have htl : (tk0 ks A F G P n).length ≤ 6 := by omega
  unfold k_X11_term
  refine ⟨⟨by omega, by omega⟩, q_checkN hf ⟨hx, L, e1, gl, 222, 1776, by omega, by omega, g_padTok g e1 (Nat.le_refl _) (Nat.le_refl _) (fun T1 ρ1 p m' f1 g1 r1 ep tk => ⟨fun c => absurd (by rw [htk]) c, fun _ => ?_⟩)⟩⟩
  have x1 := g1.1
  have ρ1x := g1.2.1
  have p1 := gPr_f f1 (by decide) (by decide) (by decide) (r1 _) gp
  obtain ⟨q, eq, -⟩ := id p1
  unfold k_X11_term_21
  refine ⟨x1, ⟨by omega, by omega⟩, q_checkLeaf x1 p1 h1 h2 ⟨x1, ?_⟩⟩
  refine ⟨q, eq, x1, L, (r1 _).trans e1, sub_A1 f1.1 gl, 4, 45, by omega, by omega, g_padTake (P' := P') g1 ((r1 _).trans e1) ep (Nat.le_refl _) (Nat.le_refl _) (fun T2 ρ2 f2 g2 r2 sg2 tk2 _ _ _ => ⟨7, 23, by omega, by omega, ?_⟩)⟩
  have p2 := gPr_f f2 (by decide) (by decide) (by decide) (r2 _) p1
  have eq2 : cr T2 362 x = some q := (r2 _).trans eq
  refine q_ofTokens (ρ := ρ2) (k := 0) (f := f) (l := 0) (by decide) (tk2 m' _ tk) htl (fun i hi h0 => tk0_mono hn hi h0) (Nat.le_refl _) (Nat.le_refl _) (fun T3 ρ3 p3 f3 np3 nd3 => ?_)
  have x3 := fr_A f3 g2.1
  have ρ3x : ρ3 x = 1 := fr_tg f3 g2.1.1 g2.2.1 (by simp)
  have r3 : ∀ z, cr T3 z x = cr T2 z x := fun z => fr_cr f3 g2.1 (by simp)
  have g3 := gLD_f f3 rfl ρ3x (fun z _ => r3 z) g2
  have dp3 : dpO dp T3 := dp_O
  have q3 : cA T3 q 6 := by
    obtain ⟨q', e', gq⟩ := p2
    obtain rfl : q = q' := Option.some.inj (eq2.symm.trans e')
    exact fr_A f3 gq.1
  refine ⟨q3, 2, 260, by omega, by omega, g_putLeaf g2.1 g2.2.1 p2 eq2 f3 np3 nd3 rfl h1 hm47 dp3 (Nat.le_refl _) (Nat.le_refl _) (fun U ρ4 f4 t4 r4 p4 => ⟨⟨by omega, by omega⟩, h U ρ4 (mix4 f1 f2 f3 f4) (gLD_f f4 rfl ((t4 x x3.1).trans ρ3x) (fun z _ => r4 z) g3) p4 (fun z => (r4 z).trans ((r3 z).trans ((r2 z).trans (r1 z))))⟩)⟩
theorem g_phrase {Q : Int32 → cS → Prop} {f mc ms : Nat} {P' : Nat → Nat} (g : gLD S ρ x n P ks A yn F G ad c0 c1 n0 P0 n1 P1) (gp : gPr S ρ dp x m nd) {sl : Nat} (hf : f < 2) (hsl : sl ≤ 20) (htk : 1 ≤ (tk0 ks A F G P n).length ∧ (tk0 ks A F G P n).length ≤ 6) (h1 : (qsS nd m).1 < 8) (h2 : (lfI nd m).length < 24) (hm47 : m ≤ 47) (hn : n ≤ 40) (hdp : dpO dp S) (hm : 240 ≤ mc) (hs : 2200 ≤ ms) (h : ∀ U ρ', fr S U ρ ρ' [2, 3, 13] → gLD U ρ' x 0 P' ks A yn F G ad c0 c1 n0 P0 n1 P1 → gPr U ρ' dp x (m + 1) (upR nd m ((1, f, sl, 0), false, tk0 ks A F G P n, [], 0)) → (∀ z, cr U z x = cr S z x) → Q (nI ((qsS nd m).1 + 1)) U) : k_X11_phrase Q dp mc ms x (nI f) (nI sl) S := by
  have hx := g.1
  have hρ := g.2.1
  obtain ⟨L, e1, gl⟩ : ∃ L, cr S 352 x = some L ∧ cA S L 3 := by
    obtain ⟨-, -, L, D, p, e1, -, gl, -⟩ := g
    exact ⟨L, e1, gl.1.1⟩
  have htl : (tk0 ks A F G P n).length ≤ 6 := by omega
  unfold k_X11_phrase
  refine ⟨⟨by omega, by omega⟩, q_checkN hf (w_pos sl (pk_le sl 20 (fun _ => ⟨hx, L, e1, gl, 222, 1776, by omega, by omega, g_padTok g e1 (Nat.le_refl _) (Nat.le_refl _) (fun T1 ρ1 p m' f1 g1 r1 ep tk => pk_lt (tk0 ks A F G P n).length 1 (fun c => absurd c (by omega)) (fun _ => pk_lt 6 (tk0 ks A F G P n).length (fun c => absurd c (by omega)) (fun _ => ?_)))⟩) (fun c => absurd c (by omega))))⟩
  have x1 := g1.1
  have ρ1x := g1.2.1
  have p1 := gPr_f f1 (by decide) (by decide) (by decide) (r1 _) gp
  obtain ⟨q, eq, -⟩ := id p1
  unfold k_X11_phrase_50
  refine ⟨x1, ⟨by omega, by omega⟩, q_checkLeaf x1 p1 h1 h2 ⟨x1, ?_⟩⟩
  refine ⟨q, eq, x1, L, (r1 _).trans e1, sub_A1 f1.1 gl, 4, 45, by omega, by omega, g_padTake (P' := P') g1 ((r1 _).trans e1) ep (Nat.le_refl _) (Nat.le_refl _) (fun T2 ρ2 f2 g2 r2 sg2 tk2 _ _ _ => ⟨7, 23, by omega, by omega, ?_⟩)⟩
  have p2 := gPr_f f2 (by decide) (by decide) (by decide) (r2 _) p1
  have eq2 : cr T2 362 x = some q := (r2 _).trans eq
  refine q_ofTokens (ρ := ρ2) (k := 1) (f := f) (l := sl) (by decide) (tk2 m' _ tk) htl (fun i hi h0 => tk0_mono hn hi h0) (Nat.le_refl _) (Nat.le_refl _) (fun T3 ρ3 p3 f3 np3 nd3 => ?_)
  have x3 := fr_A f3 g2.1
  have ρ3x : ρ3 x = 1 := fr_tg f3 g2.1.1 g2.2.1 (by simp)
  have r3 : ∀ z, cr T3 z x = cr T2 z x := fun z => fr_cr f3 g2.1 (by simp)
  have g3 := gLD_f f3 rfl ρ3x (fun z _ => r3 z) g2
  have dp3 : dpO dp T3 := dp_O
  have q3 : cA T3 q 6 := by
    obtain ⟨q', e', gq⟩ := p2
    obtain rfl : q = q' := Option.some.inj (eq2.symm.trans e')
    exact fr_A f3 gq.1
  refine ⟨q3, 2, 260, by omega, by omega, g_putLeaf g2.1 g2.2.1 p2 eq2 f3 np3 nd3 rfl h1 hm47 dp3 (Nat.le_refl _) (Nat.le_refl _) (fun U ρ4 f4 t4 r4 p4 => ⟨⟨by omega, by omega⟩, h U ρ4 (mix4 f1 f2 f3 f4) (gLD_f f4 rfl ((t4 x x3.1).trans ρ3x) (fun z _ => r4 z) g3) p4 (fun z => (r4 z).trans ((r3 z).trans ((r2 z).trans (r1 z))))⟩)⟩
theorem g_near {Q : Int32 → cS → Prop} {f mc ms : Nat} {P' : Nat → Nat} (g : gLD S ρ x n P ks A yn F G ad c0 c1 n0 P0 n1 P1) (gp : gPr S ρ dp x m nd) {sl : Nat} {b : Bool} (hf : f < 2) (hsl : 1 ≤ sl ∧ sl ≤ 20) (htk : (tk0 ks A F G P n).length = 2) (h1 : (qsS nd m).1 < 8) (h2 : (lfI nd m).length < 24) (hm47 : m ≤ 47) (hn : n ≤ 40) (hdp : dpO dp S) (hm : 240 ≤ mc) (hs : 2200 ≤ ms) (h : ∀ U ρ', fr S U ρ ρ' [2, 3, 13] → gLD U ρ' x 0 P' ks A yn F G ad c0 c1 n0 P0 n1 P1 → gPr U ρ' dp x (m + 1) (upR nd m ((2, f, sl, 0), b, tk0 ks A F G P n, [], 0)) → (∀ z, cr U z x = cr S z x) → Q (nI ((qsS nd m).1 + 1)) U) : k_X11_near Q dp mc ms x (nI f) (nI sl) (bI b) S := by
  have hx := g.1
  have hρ := g.2.1
  obtain ⟨L, e1, gl⟩ : ∃ L, cr S 352 x = some L ∧ cA S L 3 := by
    obtain ⟨-, -, L, D, p, e1, -, gl, -⟩ := g
    exact ⟨L, e1, gl.1.1⟩
  have htl : (tk0 ks A F G P n).length ≤ 6 := by omega
  unfold k_X11_near
  refine ⟨⟨by omega, by omega⟩, q_checkN hf (pk_lt sl 1 (fun c => absurd c (by omega)) (fun _ => pk_le sl 20 (fun _ => ⟨hx, L, e1, gl, 222, 1776, by omega, by omega, g_padTok g e1 (Nat.le_refl _) (Nat.le_refl _) (fun T1 ρ1 p m' f1 g1 r1 ep tk => ⟨fun c => absurd (by rw [htk]) c, fun _ => ?_⟩)⟩) (fun c => absurd c (by omega))))⟩
  have x1 := g1.1
  have ρ1x := g1.2.1
  have p1 := gPr_f f1 (by decide) (by decide) (by decide) (r1 _) gp
  obtain ⟨q, eq, -⟩ := id p1
  unfold k_X11_near_43
  refine ⟨x1, ⟨by omega, by omega⟩, q_checkLeaf x1 p1 h1 h2 ⟨x1, ?_⟩⟩
  refine ⟨L, (r1 _).trans e1, sub_A1 f1.1 gl, 4, 45, by omega, by omega, g_padTake (P' := P') g1 ((r1 _).trans e1) ep (Nat.le_refl _) (Nat.le_refl _) (fun T2 ρ2 f2 g2 r2 sg2 tk2 _ _ _ => ⟨7, 23, by omega, by omega, ?_⟩)⟩
  have p2 := gPr_f f2 (by decide) (by decide) (by decide) (r2 _) p1
  have eq2 : cr T2 362 x = some q := (r2 _).trans eq
  refine q_ofTokens (ρ := ρ2) (k := 2) (f := f) (l := sl) (by decide) (tk2 m' _ tk) htl (fun i hi h0 => tk0_mono hn hi h0) (Nat.le_refl _) (Nat.le_refl _) (fun T3 ρ3 p3 f3 np3 nd3 => ?_)
  refine ⟨nd3.1, ⟨b, rfl⟩, fun S14 e14 => ?_⟩
  have s14 : cSub T3 S14 (fun z => z = p3) := e14 ▸ sub_Si rfl
  have f3' : fr T2 S14 ρ2 ρ3 [] := ⟨sub_wk (sub_tr (sub_wk f3.1 (fun _ _ z => by simp at z)) s14 (F := fun _ => False) (fun a ha z => np3 (z ▸ ha))) (fun _ _ z => z.elim), f3.2⟩
  have nd4 := ndT_131 e14 nd3
  have x3 := fr_A f3' g2.1
  have ρ3x : ρ3 x = 1 := fr_tg f3' g2.1.1 g2.2.1 (by simp)
  have r3 : ∀ z, cr S14 z x = cr T2 z x := fun z => fr_cr f3' g2.1 (by simp)
  have g3 := gLD_f f3' rfl ρ3x (fun z _ => r3 z) g2
  have dp3 : dpO dp S14 := dp_O
  have q3 : cA S14 q 6 := by
    obtain ⟨q', e', gq⟩ := p2
    obtain rfl : q = q' := Option.some.inj (eq2.symm.trans e')
    exact fr_A f3' gq.1
  refine ⟨x3, q, (r3 _).trans eq2, q3, 2, 260, by omega, by omega, g_putLeaf g2.1 g2.2.1 p2 eq2 f3' np3 nd4 rfl h1 hm47 dp3 (Nat.le_refl _) (Nat.le_refl _) (fun U ρ4 f4 t4 r4 p4 => ⟨⟨by omega, by omega⟩, h U ρ4 (mix4 f1 f2 f3' f4) (gLD_f f4 rfl ((t4 x x3.1).trans ρ3x) (fun z _ => r4 z) g3) p4 (fun z => (r4 z).trans ((r3 z).trans ((r2 z).trans (r1 z))))⟩)⟩
theorem g_prefix {Q : Int32 → cS → Prop} {f mc ms : Nat} {P' : Nat → Nat} (g : gLD S ρ x n P ks A yn F G ad c0 c1 n0 P0 n1 P1) (gp : gPr S ρ dp x m nd) (hf : f < 2) (hw : wdC P n = 1) (h1 : (qsS nd m).1 < 8) (h2 : (lfI nd m).length < 24) (hm47 : m ≤ 47) (hdp : dpO dp S) (hm : 240 ≤ mc) (hs : 2200 ≤ ms) (h : ∀ U ρ', fr S U ρ ρ' [2, 3, 13] → gLD U ρ' x 0 P' ks A yn F G ad c0 c1 n0 P0 n1 P1 → gPr U ρ' dp x (m + 1) (upR nd m ((3, f, 0, 0), false, [], [], wdW P n 0)) → (∀ z, cr U z x = cr S z x) → Q (nI ((qsS nd m).1 + 1)) U) : k_X11_prefix Q dp mc ms x (nI f) S := by
  obtain ⟨hx, hρ, L, D, p, e1, e2, gl, ep, gpad, gd⟩ := id g
  unfold k_X11_prefix
  refine ⟨⟨by omega, by omega⟩, q_checkN hf ⟨hx, L, e1, gl.1.1, ⟨by omega, by omega⟩, g_readPad gl ep gpad (fun T1 f1 gl1 ep1 gpad1 c98 hwd => ⟨fun c => absurd (by rw [hw]) c, fun _ => ?_⟩)⟩⟩
  have x1 := fr_A f1 hx
  have r1 : ∀ z, cr T1 z x = cr S z x := fun z => fr_cr f1 hx (by rw [hρ]; decide)
  have g1 : gLD T1 ρ x n P ks A yn F G ad c0 c1 n0 P0 n1 P1 := ⟨x1, hρ, L, D, p, (r1 _).trans e1, (r1 _).trans e2, gl1, ep1, gpad1, gDr_fr f1 (by decide) (by decide) (by decide) gd⟩
  have p1 := gPr_f f1 (by decide) (by decide) (by decide) (r1 _) gp
  obtain ⟨q, eq, -⟩ := id p1
  obtain ⟨l1, l2, l3, w, -, -, -, ⟨w1, w2, w3⟩, -⟩ := id gl1.1
  unfold k_X11_prefix_21
  refine ⟨x1, ⟨by omega, by omega⟩, q_checkLeaf x1 p1 h1 h2 ⟨x1, L, (r1 _).trans e1, gl1.1.1, 4, 45, by omega, by omega, g_padTake (P' := P') g1 ((r1 _).trans e1) ep1 (Nat.le_refl _) (Nat.le_refl _) (fun T2 ρ2 f2 g2 r2 sg2 tk2 rL2 iL2 J2 => ?_)⟩⟩
  have p2 := gPr_f f2 (by decide) (by decide) (by decide) (r2 _) p1
  have eq2 : cr T2 362 x = some q := (r2 _).trans eq
  have e12 : cr T2 352 x = some L := (r2 _).trans ((r1 _).trans e1)
  have w96 : cr T2 97 L = some w := (rL2 _ (by decide)).trans w1
  refine ⟨g2.1, q, eq2, g2.1, L, e12, sub_A1 f2.1 l1, ⟨by omega, by omega⟩, q_wordAt (sub_A1 f2.1 l1) ((iL2 _).trans c98) (by omega) w96 (sub_A1 f2.1 w2) ((sub_cn f2.1 w2).trans w3) (show 0 < wdC P n by omega) ?_⟩
  rw [J2 w w1, hwd w w1 0 (by omega)]
  refine ⟨6, 24, by omega, by omega, q_ofPrefix (ρ := ρ2) (wdW_63 P n 0) (Nat.le_refl _) (Nat.le_refl _) (fun T3 ρ3 p3 f3 np3 nd3 => ?_)⟩
  have x3 := fr_A f3 g2.1
  have ρ3x : ρ3 x = 1 := fr_tg f3 g2.1.1 g2.2.1 (by simp)
  have r3 : ∀ z, cr T3 z x = cr T2 z x := fun z => fr_cr f3 g2.1 (by simp)
  have g3 := gLD_f f3 rfl ρ3x (fun z _ => r3 z) g2
  have dp3 : dpO dp T3 := dp_O
  have q3 : cA T3 q 6 := by
    obtain ⟨q', e', gq⟩ := p2
    obtain rfl : q = q' := Option.some.inj (eq2.symm.trans e')
    exact fr_A f3 gq.1
  refine ⟨q3, 2, 260, by omega, by omega, g_putLeaf g2.1 g2.2.1 p2 eq2 f3 np3 nd3 rfl h1 hm47 dp3 (Nat.le_refl _) (Nat.le_refl _) (fun U ρ4 f4 t4 r4 p4 => ⟨⟨by omega, by omega⟩, h U ρ4 (mix4 (fr_up f1 rfl) f2 f3 f4) (gLD_f f4 rfl ((t4 x x3.1).trans ρ3x) (fun z _ => r4 z) g3) p4 (fun z => (r4 z).trans ((r3 z).trans ((r2 z).trans (r1 z))))⟩)⟩
theorem g_fuzzy {Q : Int32 → cS → Prop} {f mc ms : Nat} {P' : Nat → Nat} (g : gLD S ρ x n P ks A yn F G ad c0 c1 n0 P0 n1 P1) (gp : gPr S ρ dp x m nd) {sl : Nat} (hf : f < 2) (hsl : sl ≤ 2) (hw : wdC P n = 1) (h1 : (qsS nd m).1 < 8) (h2 : (lfI nd m).length < 24) (hm47 : m ≤ 47) (hdp : dpO dp S) (hm : 240 ≤ mc) (hs : 2200 ≤ ms) (h : ∀ U ρ', fr S U ρ ρ' [2, 3, 13] → gLD U ρ' x 0 P' ks A yn F G ad c0 c1 n0 P0 n1 P1 → gPr U ρ' dp x (m + 1) (upR nd m ((5, f, sl, 0), false, [], [], wdW P n 0)) → (∀ z, cr U z x = cr S z x) → Q (nI ((qsS nd m).1 + 1)) U) : k_X11_fuzzy Q dp mc ms x (nI f) (nI sl) S := by
  obtain ⟨hx, hρ, L, D, p, e1, e2, gl, ep, gpad, gd⟩ := id g
  unfold k_X11_fuzzy
  refine ⟨⟨by omega, by omega⟩, q_checkN hf (w_pos sl (pk_le sl 2 (fun _ => ⟨hx, L, e1, gl.1.1, ⟨by omega, by omega⟩, g_readPad gl ep gpad (fun T1 f1 gl1 ep1 gpad1 c98 hwd => ⟨fun c => absurd (by rw [hw]) c, fun _ => ?_⟩)⟩) (fun c => absurd c (by omega))))⟩
  have x1 := fr_A f1 hx
  have r1 : ∀ z, cr T1 z x = cr S z x := fun z => fr_cr f1 hx (by rw [hρ]; decide)
  have g1 : gLD T1 ρ x n P ks A yn F G ad c0 c1 n0 P0 n1 P1 := ⟨x1, hρ, L, D, p, (r1 _).trans e1, (r1 _).trans e2, gl1, ep1, gpad1, gDr_fr f1 (by decide) (by decide) (by decide) gd⟩
  have p1 := gPr_f f1 (by decide) (by decide) (by decide) (r1 _) gp
  obtain ⟨q, eq, -⟩ := id p1
  obtain ⟨l1, l2, l3, w, -, -, -, ⟨w1, w2, w3⟩, -⟩ := id gl1.1
  unfold k_X11_fuzzy_41
  refine ⟨x1, ⟨by omega, by omega⟩, q_checkLeaf x1 p1 h1 h2 ⟨x1, L, (r1 _).trans e1, gl1.1.1, 4, 45, by omega, by omega, g_padTake (P' := P') g1 ((r1 _).trans e1) ep1 (Nat.le_refl _) (Nat.le_refl _) (fun T2 ρ2 f2 g2 r2 sg2 tk2 rL2 iL2 J2 => ?_)⟩⟩
  have p2 := gPr_f f2 (by decide) (by decide) (by decide) (r2 _) p1
  have eq2 : cr T2 362 x = some q := (r2 _).trans eq
  have e12 : cr T2 352 x = some L := (r2 _).trans ((r1 _).trans e1)
  have w96 : cr T2 97 L = some w := (rL2 _ (by decide)).trans w1
  refine ⟨g2.1, q, eq2, g2.1, L, e12, sub_A1 f2.1 l1, ⟨by omega, by omega⟩, q_wordAt (sub_A1 f2.1 l1) ((iL2 _).trans c98) (by omega) w96 (sub_A1 f2.1 w2) ((sub_cn f2.1 w2).trans w3) (show 0 < wdC P n by omega) ?_⟩
  rw [J2 w w1, hwd w w1 0 (by omega)]
  refine ⟨6, 24, by omega, by omega, q_ofEdits (ρ := ρ2) (wdW_63 P n 0) (Nat.le_refl _) (Nat.le_refl _) (fun T3 ρ3 p3 f3 np3 nd3 => ?_)⟩
  have x3 := fr_A f3 g2.1
  have ρ3x : ρ3 x = 1 := fr_tg f3 g2.1.1 g2.2.1 (by simp)
  have r3 : ∀ z, cr T3 z x = cr T2 z x := fun z => fr_cr f3 g2.1 (by simp)
  have g3 := gLD_f f3 rfl ρ3x (fun z _ => r3 z) g2
  have dp3 : dpO dp T3 := dp_O
  have q3 : cA T3 q 6 := by
    obtain ⟨q', e', gq⟩ := p2
    obtain rfl : q = q' := Option.some.inj (eq2.symm.trans e')
    exact fr_A f3 gq.1
  refine ⟨q3, 2, 260, by omega, by omega, g_putLeaf g2.1 g2.2.1 p2 eq2 f3 np3 nd3 rfl h1 hm47 dp3 (Nat.le_refl _) (Nat.le_refl _) (fun U ρ4 f4 t4 r4 p4 => ⟨⟨by omega, by omega⟩, h U ρ4 (mix4 (fr_up f1 rfl) f2 f3 f4) (gLD_f f4 rfl ((t4 x x3.1).trans ρ3x) (fun z _ => r4 z) g3) p4 (fun z => (r4 z).trans ((r3 z).trans ((r2 z).trans (r1 z))))⟩)⟩
theorem g_wild {Q : Int32 → cS → Prop} {f mc ms : Nat} {P' : Nat → Nat} (g : gLD S ρ x n P ks A yn F G ad c0 c1 n0 P0 n1 P1) (gp : gPr S ρ dp x m nd) (hf : f < 2) (hn : 1 ≤ n ∧ n ≤ 12) (hp : allB (fun k => decide (0 < pfN (P k))) n = true) (h1 : (qsS nd m).1 < 8) (h2 : (lfI nd m).length < 24) (hm47 : m ≤ 47) (hdp : dpO dp S) (hm : 240 ≤ mc) (hs : 2200 ≤ ms) (h : ∀ U ρ', fr S U ρ ρ' [2, 3, 13] → gLD U ρ' x 0 P' ks A yn F G ad c0 c1 n0 P0 n1 P1 → gPr U ρ' dp x (m + 1) (upR nd m ((4, f, 0, 0), false, [], (List.range n).map (fun k => pfN (P k)), 0)) → (∀ z, cr U z x = cr S z x) → Q (nI ((qsS nd m).1 + 1)) U) : k_X11_wild Q dp mc ms x (nI f) S := by
  obtain ⟨hx, hρ, L, D, p, e1, e2, gl, ep, gpad, gd⟩ := id g
  obtain ⟨q, eq, -⟩ := id gp
  unfold k_X11_wild
  refine ⟨⟨by omega, by omega⟩, q_checkN hf ⟨hx, L, e1, gl.1.1, p, ep, ⟨by omega, by omega⟩, q_isPattern gpad.1 ?_⟩⟩
  rw [decide_eq_true hn, hp]
  refine ⟨hx, ⟨by omega, by omega⟩, q_checkLeaf hx gp h1 h2 ⟨hx, q, eq, hx, L, e1, gl.1.1, 4, 45, by omega, by omega, g_padTake (P' := P') g e1 ep (Nat.le_refl _) (Nat.le_refl _) (fun T2 ρ2 f2 g2 r2 sg2 tk2 rL2 iL2 J2 => ⟨6, 24, by omega, by omega, q_ofPattern (ρ := ρ2) sg2 hn.2 (Nat.le_refl _) (Nat.le_refl _) (fun T3 ρ3 p3 f3 np3 nd3 => ?_)⟩)⟩⟩
  have p2 := gPr_f f2 (by decide) (by decide) (by decide) (r2 _) gp
  have eq2 : cr T2 362 x = some q := (r2 _).trans eq
  have x3 := fr_A f3 g2.1
  have ρ3x : ρ3 x = 1 := fr_tg f3 g2.1.1 g2.2.1 (by simp)
  have r3 : ∀ z, cr T3 z x = cr T2 z x := fun z => fr_cr f3 g2.1 (by simp)
  have g3 := gLD_f f3 rfl ρ3x (fun z _ => r3 z) g2
  have dp3 : dpO dp T3 := dp_O
  have q3 : cA T3 q 6 := by
    obtain ⟨q', e', gq⟩ := p2
    obtain rfl : q = q' := Option.some.inj (eq2.symm.trans e')
    exact fr_A f3 gq.1
  refine ⟨q3, 2, 260, by omega, by omega, g_putLeaf g2.1 g2.2.1 p2 eq2 f3 np3 nd3 rfl h1 hm47 dp3 (Nat.le_refl _) (Nat.le_refl _) (fun U ρ4 f4 t4 r4 p4 => ⟨⟨by omega, by omega⟩, h U ρ4 (mix3 f2 f3 f4) (gLD_f f4 rfl ((t4 x x3.1).trans ρ3x) (fun z _ => r4 z) g3) p4 (fun z => (r4 z).trans ((r3 z).trans (r2 z)))⟩)⟩
theorem x_termF {Q : cS → Prop} {y  : Int32} {mc ms : Nat} (hk : ∀ k, k < 2 → y ≠ nI k) (hm : 1 ≤ mc) (hs : 6 ≤ ms) (h : Q S) : kx_X11_term "java/lang/IndexOutOfBoundsException" Q dp mc ms x y  S := by
  unfold kx_X11_term
  exact Or.inr ⟨mc, ms, ⟨by omega, by omega⟩, x_checkN hk hm hs h⟩
theorem x_phraseF {Q : cS → Prop} {y z : Int32} {mc ms : Nat} (hk : ∀ k, k < 2 → y ≠ nI k) (hm : 1 ≤ mc) (hs : 6 ≤ ms) (h : Q S) : kx_X11_phrase "java/lang/IndexOutOfBoundsException" Q dp mc ms x y z S := by
  unfold kx_X11_phrase
  exact Or.inr ⟨mc, ms, ⟨by omega, by omega⟩, x_checkN hk hm hs h⟩
theorem x_nearF {Q : cS → Prop} {y z u : Int32} {mc ms : Nat} (hk : ∀ k, k < 2 → y ≠ nI k) (hm : 1 ≤ mc) (hs : 6 ≤ ms) (h : Q S) : kx_X11_near "java/lang/IndexOutOfBoundsException" Q dp mc ms x y z u S := by
  unfold kx_X11_near
  exact Or.inr ⟨mc, ms, ⟨by omega, by omega⟩, x_checkN hk hm hs h⟩
theorem x_prefixF {Q : cS → Prop} {y  : Int32} {mc ms : Nat} (hk : ∀ k, k < 2 → y ≠ nI k) (hm : 1 ≤ mc) (hs : 6 ≤ ms) (h : Q S) : kx_X11_prefix "java/lang/IndexOutOfBoundsException" Q dp mc ms x y  S := by
  unfold kx_X11_prefix
  exact Or.inr ⟨mc, ms, ⟨by omega, by omega⟩, x_checkN hk hm hs h⟩
theorem x_wildF {Q : cS → Prop} {y  : Int32} {mc ms : Nat} (hk : ∀ k, k < 2 → y ≠ nI k) (hm : 1 ≤ mc) (hs : 6 ≤ ms) (h : Q S) : kx_X11_wild "java/lang/IndexOutOfBoundsException" Q dp mc ms x y  S := by
  unfold kx_X11_wild
  exact Or.inr ⟨mc, ms, ⟨by omega, by omega⟩, x_checkN hk hm hs h⟩
theorem x_fuzzyF {Q : cS → Prop} {y z : Int32} {mc ms : Nat} (hk : ∀ k, k < 2 → y ≠ nI k) (hm : 1 ≤ mc) (hs : 6 ≤ ms) (h : Q S) : kx_X11_fuzzy "java/lang/IndexOutOfBoundsException" Q dp mc ms x y z S := by
  unfold kx_X11_fuzzy
  exact Or.inr ⟨mc, ms, ⟨by omega, by omega⟩, x_checkN hk hm hs h⟩
theorem x_phraseA {Q : cS → Prop} {z  : Int32} {f mc ms : Nat} (hf : f < 2) (hz : ∀ k, k ≤ 20 → z ≠ nI k) (hm : 1 ≤ mc) (hs : 6 ≤ ms) (h : Q S) : kx_X11_phrase "java/lang/IllegalArgumentException" Q dp mc ms x (nI f) z  S := by
  have bd : (0 + 1 ≤ mc ∧ 0 + 6 ≤ ms) := ⟨by omega, by omega⟩
  unfold kx_X11_phrase
  refine Or.inl ⟨⟨by omega, by omega⟩, q_checkN hf ⟨fun _ => ⟨rfl, bd, h⟩, fun c => ⟨fun c2 => ?_, fun _ => ⟨rfl, bd, h⟩⟩⟩⟩
  obtain ⟨k, hk, rfl⟩ := nI_of c
  exact absurd rfl (hz k ((nI_leI hk (by decide)).mp c2))
theorem x_nearA {Q : cS → Prop} {z u : Int32} {f mc ms : Nat} (hf : f < 2) (hz : ∀ k, 1 ≤ k → k ≤ 20 → z ≠ nI k) (hm : 1 ≤ mc) (hs : 6 ≤ ms) (h : Q S) : kx_X11_near "java/lang/IllegalArgumentException" Q dp mc ms x (nI f) z u S := by
  have bd : (0 + 1 ≤ mc ∧ 0 + 6 ≤ ms) := ⟨by omega, by omega⟩
  unfold kx_X11_near
  refine Or.inl ⟨⟨by omega, by omega⟩, q_checkN hf ⟨fun _ => ⟨rfl, bd, h⟩, fun c => ⟨fun c2 => ?_, fun _ => ⟨rfl, bd, h⟩⟩⟩⟩
  have c0 : ¬ z < 0 := fun w => c (Int32.lt_trans w (by decide))
  obtain ⟨k, hk, rfl⟩ := nI_of c0
  exact absurd rfl (hz k (by have := mt (nI_ltI hk (by decide)).mpr c; omega) ((nI_leI hk (by decide)).mp c2))
theorem x_fuzzyA {Q : cS → Prop} {z  : Int32} {f mc ms : Nat} (hf : f < 2) (hz : ∀ k, k ≤ 2 → z ≠ nI k) (hm : 1 ≤ mc) (hs : 6 ≤ ms) (h : Q S) : kx_X11_fuzzy "java/lang/IllegalArgumentException" Q dp mc ms x (nI f) z  S := by
  have bd : (0 + 1 ≤ mc ∧ 0 + 6 ≤ ms) := ⟨by omega, by omega⟩
  unfold kx_X11_fuzzy
  refine Or.inl ⟨⟨by omega, by omega⟩, q_checkN hf ⟨fun _ => ⟨rfl, bd, h⟩, fun c => ⟨fun c2 => ?_, fun _ => ⟨rfl, bd, h⟩⟩⟩⟩
  obtain ⟨k, hk, rfl⟩ := nI_of c
  exact absurd rfl (hz k ((nI_leI hk (by decide)).mp c2))
theorem x_termS {Q : cS → Prop} {f mc ms : Nat} (g : gLD S ρ x n P ks A yn F G ad c0 c1 n0 P0 n1 P1) (gp : gPr S ρ dp x m nd) (hf : f < 2) (h48 : m ≤ 48) (h8 : (qsS nd m).1 < 100) (h0 : ((tk0 ks A F G P n).length ≠ 1) ∨ 8 ≤ (qsS nd m).1 ∨ 24 ≤ (lfI nd m).length) (hm : 240 ≤ mc) (hs : 2200 ≤ ms) (h : ∀ T ρ', fr S T ρ ρ' [2, 3] → gLD T ρ' x n P ks A yn F G ad c0 c1 n0 P0 n1 P1 → gPr T ρ' dp x m nd → (∀ z, cr T z x = cr S z x) → Q T) : kx_X11_term "java/lang/IllegalStateException" Q dp mc ms x (nI f) S := by
  have hx := g.1
  have hρ := g.2.1
  have hwl := tk0_le (ks := ks) (A := A) (F := F) (G := G) (P := P) (n := n)
  have hwc := wdC_le P n
  have hn40 : n ≤ 40 := by
    obtain ⟨-, -, L, D, p, -, -, -, -, gpad, -⟩ := g
    exact gpad.1.2.1
  obtain ⟨L, e1, gl⟩ : ∃ L, cr S 352 x = some L ∧ cA S L 3 := by
    obtain ⟨-, -, L, D, p, e1, -, gl, -⟩ := g
    exact ⟨L, e1, gl.1.1⟩
  have fin : ∀ (T1 : cS) (ρ1 : Nat → Nat) (b : Bool), fr S T1 ρ ρ1 [2, 3] → gLD T1 ρ1 x n P ks A yn F G ad c0 c1 n0 P0 n1 P1 → (∀ q, cr T1 q x = cr S q x) → (b = false ∨ 8 ≤ (qsS nd m).1 ∨ 24 ≤ (lfI nd m).length) → kx_X11_term_21 "java/lang/IllegalStateException" Q dp mc ms x (nI f) (bI b) x (0 + 222) (0 + 1776) T1 := by
    intro T1 ρ1 b f1 g1 r1 hb
    have p1 := gPr_f f1 (by decide) (by decide) (by decide) (r1 _) gp
    unfold kx_X11_term_21
    exact ⟨g1.1, Or.inr ⟨1, 6, ⟨by omega, by omega⟩, x_checkLeaf g1.1 p1 h48 h8 hb (Nat.le_refl _) (Nat.le_refl _) (h T1 ρ1 f1 g1 p1 r1)⟩⟩
  unfold kx_X11_term
  refine Or.inl ⟨⟨by omega, by omega⟩, q_checkN hf ⟨hx, L, e1, gl, 222, 1776, by omega, by omega, g_padTok g e1 (Nat.le_refl _) (Nat.le_refl _) (fun T1 ρ1 p m' f1 g1 r1 ep tk => w_ne (tk0 ks A F G P n).length 1 (fun _ => fin T1 ρ1 false f1 g1 r1 (Or.inl rfl)) (fun c => fin T1 ρ1 true f1 g1 r1 (h0.elim (fun w => absurd c w) Or.inr)))⟩⟩
theorem x_phraseS {Q : cS → Prop} {f mc ms : Nat} {sl : Nat} (g : gLD S ρ x n P ks A yn F G ad c0 c1 n0 P0 n1 P1) (gp : gPr S ρ dp x m nd) (hf : f < 2) (h48 : m ≤ 48) (h8 : (qsS nd m).1 < 100) (hsl : sl ≤ 20) (h0 : (¬ (1 ≤ (tk0 ks A F G P n).length ∧ (tk0 ks A F G P n).length ≤ 6)) ∨ 8 ≤ (qsS nd m).1 ∨ 24 ≤ (lfI nd m).length) (hm : 240 ≤ mc) (hs : 2200 ≤ ms) (h : ∀ T ρ', fr S T ρ ρ' [2, 3] → gLD T ρ' x n P ks A yn F G ad c0 c1 n0 P0 n1 P1 → gPr T ρ' dp x m nd → (∀ z, cr T z x = cr S z x) → Q T) : kx_X11_phrase "java/lang/IllegalStateException" Q dp mc ms x (nI f) (nI sl) S := by
  have hx := g.1
  have hρ := g.2.1
  have hwl := tk0_le (ks := ks) (A := A) (F := F) (G := G) (P := P) (n := n)
  have hwc := wdC_le P n
  have hn40 : n ≤ 40 := by
    obtain ⟨-, -, L, D, p, -, -, -, -, gpad, -⟩ := g
    exact gpad.1.2.1
  obtain ⟨L, e1, gl⟩ : ∃ L, cr S 352 x = some L ∧ cA S L 3 := by
    obtain ⟨-, -, L, D, p, e1, -, gl, -⟩ := g
    exact ⟨L, e1, gl.1.1⟩
  have fin : ∀ (T1 : cS) (ρ1 : Nat → Nat) (b : Bool), fr S T1 ρ ρ1 [2, 3] → gLD T1 ρ1 x n P ks A yn F G ad c0 c1 n0 P0 n1 P1 → (∀ q, cr T1 q x = cr S q x) → (b = false ∨ 8 ≤ (qsS nd m).1 ∨ 24 ≤ (lfI nd m).length) → kx_X11_phrase_50 "java/lang/IllegalStateException" Q dp mc ms x (nI f) (nI sl) (bI b) x (0 + 222) (0 + 1776) T1 := by
    intro T1 ρ1 b f1 g1 r1 hb
    have p1 := gPr_f f1 (by decide) (by decide) (by decide) (r1 _) gp
    unfold kx_X11_phrase_50
    exact ⟨g1.1, Or.inr ⟨1, 6, ⟨by omega, by omega⟩, x_checkLeaf g1.1 p1 h48 h8 hb (Nat.le_refl _) (Nat.le_refl _) (h T1 ρ1 f1 g1 p1 r1)⟩⟩
  unfold kx_X11_phrase
  refine Or.inl ⟨⟨by omega, by omega⟩, q_checkN hf (w_pos sl (pk_le sl 20 (fun _ => ⟨hx, L, e1, gl, 222, 1776, by omega, by omega, g_padTok g e1 (Nat.le_refl _) (Nat.le_refl _) (fun T1 ρ1 p m' f1 g1 r1 ep tk => pk_lt (tk0 ks A F G P n).length 1 (fun _ => fin T1 ρ1 false f1 g1 r1 (Or.inl rfl)) (fun c1 => pk_lt 6 (tk0 ks A F G P n).length (fun _ => fin T1 ρ1 false f1 g1 r1 (Or.inl rfl)) (fun c2 => fin T1 ρ1 true f1 g1 r1 (h0.elim (fun w => absurd ⟨c1, c2⟩ w) Or.inr))))⟩) (fun c => absurd c (by omega))))⟩
theorem x_nearS {Q : cS → Prop} {f mc ms : Nat} {sl : Nat} {u : Int32} (g : gLD S ρ x n P ks A yn F G ad c0 c1 n0 P0 n1 P1) (gp : gPr S ρ dp x m nd) (hf : f < 2) (h48 : m ≤ 48) (h8 : (qsS nd m).1 < 100) (hsl : 1 ≤ sl ∧ sl ≤ 20) (h0 : ((tk0 ks A F G P n).length ≠ 2) ∨ 8 ≤ (qsS nd m).1 ∨ 24 ≤ (lfI nd m).length) (hm : 240 ≤ mc) (hs : 2200 ≤ ms) (h : ∀ T ρ', fr S T ρ ρ' [2, 3] → gLD T ρ' x n P ks A yn F G ad c0 c1 n0 P0 n1 P1 → gPr T ρ' dp x m nd → (∀ z, cr T z x = cr S z x) → Q T) : kx_X11_near "java/lang/IllegalStateException" Q dp mc ms x (nI f) (nI sl) u S := by
  have hx := g.1
  have hρ := g.2.1
  have hwl := tk0_le (ks := ks) (A := A) (F := F) (G := G) (P := P) (n := n)
  have hwc := wdC_le P n
  have hn40 : n ≤ 40 := by
    obtain ⟨-, -, L, D, p, -, -, -, -, gpad, -⟩ := g
    exact gpad.1.2.1
  obtain ⟨L, e1, gl⟩ : ∃ L, cr S 352 x = some L ∧ cA S L 3 := by
    obtain ⟨-, -, L, D, p, e1, -, gl, -⟩ := g
    exact ⟨L, e1, gl.1.1⟩
  have fin : ∀ (T1 : cS) (ρ1 : Nat → Nat) (b : Bool), fr S T1 ρ ρ1 [2, 3] → gLD T1 ρ1 x n P ks A yn F G ad c0 c1 n0 P0 n1 P1 → (∀ q, cr T1 q x = cr S q x) → (b = false ∨ 8 ≤ (qsS nd m).1 ∨ 24 ≤ (lfI nd m).length) → kx_X11_near_43 "java/lang/IllegalStateException" Q dp mc ms x (nI f) (nI sl) u (bI b) x (0 + 222) (0 + 1776) T1 := by
    intro T1 ρ1 b f1 g1 r1 hb
    have p1 := gPr_f f1 (by decide) (by decide) (by decide) (r1 _) gp
    unfold kx_X11_near_43
    exact ⟨g1.1, Or.inr ⟨1, 6, ⟨by omega, by omega⟩, x_checkLeaf g1.1 p1 h48 h8 hb (Nat.le_refl _) (Nat.le_refl _) (h T1 ρ1 f1 g1 p1 r1)⟩⟩
  unfold kx_X11_near
  refine Or.inl ⟨⟨by omega, by omega⟩, q_checkN hf (pk_lt sl 1 (fun c => absurd c (by omega)) (fun _ => pk_le sl 20 (fun _ => ⟨hx, L, e1, gl, 222, 1776, by omega, by omega, g_padTok g e1 (Nat.le_refl _) (Nat.le_refl _) (fun T1 ρ1 p m' f1 g1 r1 ep tk => w_ne (tk0 ks A F G P n).length 2 (fun _ => fin T1 ρ1 false f1 g1 r1 (Or.inl rfl)) (fun c => fin T1 ρ1 true f1 g1 r1 (h0.elim (fun w => absurd c w) Or.inr)))⟩) (fun c => absurd c (by omega))))⟩
theorem x_prefixS {Q : cS → Prop} {f mc ms : Nat} (g : gLD S ρ x n P ks A yn F G ad c0 c1 n0 P0 n1 P1) (gp : gPr S ρ dp x m nd) (hf : f < 2) (h48 : m ≤ 48) (h8 : (qsS nd m).1 < 100) (h0 : (wdC P n ≠ 1) ∨ 8 ≤ (qsS nd m).1 ∨ 24 ≤ (lfI nd m).length) (hm : 240 ≤ mc) (hs : 2200 ≤ ms) (h : ∀ T ρ', fr S T ρ ρ' [2, 3] → gLD T ρ' x n P ks A yn F G ad c0 c1 n0 P0 n1 P1 → gPr T ρ' dp x m nd → (∀ z, cr T z x = cr S z x) → Q T) : kx_X11_prefix "java/lang/IllegalStateException" Q dp mc ms x (nI f) S := by
  obtain ⟨hx, hρ, L, D, p, e1, e2, gl, ep, gpad, gd⟩ := id g
  have hwc := wdC_le P n
  have hn40 := gpad.1.2.1
  have fin : ∀ (T1 : cS) (b : Bool), fr S T1 ρ ρ [2] → gLg T1 ρ L ks A yn F G ad → cr T1 96 L = some p → gTx T1 ρ 3 p n P → (b = false ∨ 8 ≤ (qsS nd m).1 ∨ 24 ≤ (lfI nd m).length) → kx_X11_prefix_21 "java/lang/IllegalStateException" Q dp mc ms x (nI f) (bI b) x 0 0 T1 := by
    intro T1 b f1 gl1 ep1 gpad1 hb
    have x1 := fr_A f1 hx
    have r1 : ∀ z, cr T1 z x = cr S z x := fun z => fr_cr f1 hx (by rw [hρ]; decide)
    have p1 := gPr_f f1 (by decide) (by decide) (by decide) (r1 _) gp
    unfold kx_X11_prefix_21
    exact ⟨x1, Or.inr ⟨1, 6, ⟨by omega, by omega⟩, x_checkLeaf x1 p1 h48 h8 hb (Nat.le_refl _) (Nat.le_refl _) (h T1 ρ (fr_up f1 rfl) ⟨x1, hρ, L, D, p, (r1 _).trans e1, (r1 _).trans e2, gl1, ep1, gpad1, gDr_fr f1 (by decide) (by decide) (by decide) gd⟩ p1 r1)⟩⟩
  unfold kx_X11_prefix
  exact Or.inl ⟨⟨by omega, by omega⟩, q_checkN hf ⟨hx, L, e1, gl.1.1, ⟨by omega, by omega⟩, g_readPad gl ep gpad (fun T1 f1 gl1 ep1 gpad1 c98 hwd => w_ne (wdC P n) 1 (fun _ => fin T1 false f1 gl1 ep1 gpad1 (Or.inl rfl)) (fun c => fin T1 true f1 gl1 ep1 gpad1 (h0.elim (fun w => absurd c w) Or.inr)))⟩⟩
theorem x_fuzzyS {Q : cS → Prop} {f mc ms : Nat} {sl : Nat} (g : gLD S ρ x n P ks A yn F G ad c0 c1 n0 P0 n1 P1) (gp : gPr S ρ dp x m nd) (hf : f < 2) (h48 : m ≤ 48) (h8 : (qsS nd m).1 < 100) (hsl : sl ≤ 2) (h0 : (wdC P n ≠ 1) ∨ 8 ≤ (qsS nd m).1 ∨ 24 ≤ (lfI nd m).length) (hm : 240 ≤ mc) (hs : 2200 ≤ ms) (h : ∀ T ρ', fr S T ρ ρ' [2, 3] → gLD T ρ' x n P ks A yn F G ad c0 c1 n0 P0 n1 P1 → gPr T ρ' dp x m nd → (∀ z, cr T z x = cr S z x) → Q T) : kx_X11_fuzzy "java/lang/IllegalStateException" Q dp mc ms x (nI f) (nI sl) S := by
  obtain ⟨hx, hρ, L, D, p, e1, e2, gl, ep, gpad, gd⟩ := id g
  have hwc := wdC_le P n
  have hn40 := gpad.1.2.1
  have fin : ∀ (T1 : cS) (b : Bool), fr S T1 ρ ρ [2] → gLg T1 ρ L ks A yn F G ad → cr T1 96 L = some p → gTx T1 ρ 3 p n P → (b = false ∨ 8 ≤ (qsS nd m).1 ∨ 24 ≤ (lfI nd m).length) → kx_X11_fuzzy_41 "java/lang/IllegalStateException" Q dp mc ms x (nI f) (nI sl) (bI b) x 0 0 T1 := by
    intro T1 b f1 gl1 ep1 gpad1 hb
    have x1 := fr_A f1 hx
    have r1 : ∀ z, cr T1 z x = cr S z x := fun z => fr_cr f1 hx (by rw [hρ]; decide)
    have p1 := gPr_f f1 (by decide) (by decide) (by decide) (r1 _) gp
    unfold kx_X11_fuzzy_41
    exact ⟨x1, Or.inr ⟨1, 6, ⟨by omega, by omega⟩, x_checkLeaf x1 p1 h48 h8 hb (Nat.le_refl _) (Nat.le_refl _) (h T1 ρ (fr_up f1 rfl) ⟨x1, hρ, L, D, p, (r1 _).trans e1, (r1 _).trans e2, gl1, ep1, gpad1, gDr_fr f1 (by decide) (by decide) (by decide) gd⟩ p1 r1)⟩⟩
  unfold kx_X11_fuzzy
  exact Or.inl ⟨⟨by omega, by omega⟩, q_checkN hf (w_pos sl (pk_le sl 2 (fun _ => ⟨hx, L, e1, gl.1.1, ⟨by omega, by omega⟩, g_readPad gl ep gpad (fun T1 f1 gl1 ep1 gpad1 c98 hwd => w_ne (wdC P n) 1 (fun _ => fin T1 false f1 gl1 ep1 gpad1 (Or.inl rfl)) (fun c => fin T1 true f1 gl1 ep1 gpad1 (h0.elim (fun w => absurd c w) Or.inr)))⟩) (fun c => absurd c (by omega))))⟩
theorem x_wildS {Q : cS → Prop} {f mc ms : Nat} (g : gLD S ρ x n P ks A yn F G ad c0 c1 n0 P0 n1 P1) (gp : gPr S ρ dp x m nd) (hf : f < 2) (h48 : m ≤ 48) (h8 : (qsS nd m).1 < 100) (h0 : (¬ (1 ≤ n ∧ n ≤ 12) ∨ allB (fun k => decide (0 < pfN (P k))) n = false) ∨ 8 ≤ (qsS nd m).1 ∨ 24 ≤ (lfI nd m).length) (hm : 240 ≤ mc) (hs : 2200 ≤ ms) (h : ∀ T ρ', fr S T ρ ρ' [2, 3] → gLD T ρ' x n P ks A yn F G ad c0 c1 n0 P0 n1 P1 → gPr T ρ' dp x m nd → (∀ z, cr T z x = cr S z x) → Q T) : kx_X11_wild "java/lang/IllegalStateException" Q dp mc ms x (nI f) S := by
  obtain ⟨hx, hρ, L, D, p, e1, e2, gl, ep, gpad, gd⟩ := id g
  unfold kx_X11_wild
  refine Or.inl ⟨⟨by omega, by omega⟩, q_checkN hf ⟨hx, L, e1, gl.1.1, p, ep, ⟨by omega, by omega⟩, q_isPattern gpad.1 ⟨hx, Or.inr ⟨1, 6, ⟨by omega, by omega⟩, x_checkLeaf hx gp h48 h8 ?_ (Nat.le_refl _) (Nat.le_refl _) (h S ρ fr_rf g gp (fun _ => rfl))⟩⟩⟩⟩
  rcases h0 with (w | w) | w
  · exact Or.inl (by rw [decide_eq_false w, Bool.false_and])
  · exact Or.inl (by rw [w, Bool.and_false])
  · exact Or.inr w
end QP
