/-! the language, the pad and the draft together -/
def gLD (S : cS) (ρ : Nat → Nat) (x n : Nat) (P : Nat → Nat) (ks : Nat) (A : Nat → Int64) (yn : Nat) (F G : Nat → Int64) (ad : Bool) (c0 c1 : Int32) (n0 : Nat) (P0 : Nat → Nat) (n1 : Nat) (P1 : Nat → Nat) : Prop := cA S x 11 ∧ ρ x = 1 ∧ ∃ L D p, cr S 352 x = some L ∧ cr S 353 x = some D ∧ gLg S ρ L ks A yn F G ad ∧ cr S 96 L = some p ∧ gTx S ρ 3 p n P ∧ gDr S ρ D c0 c1 n0 P0 n1 P1
/-- the pad's cells get another tag -/
def padTo (κ τ : Nat) : Nat := if τ = 3 then κ else τ
section LDs
variable {S T : cS} {ρ ρ' : Nat → Nat} {M : List Nat} {dp x n : Nat} {P : Nat → Nat} {ks : Nat} {A : Nat → Int64} {yn : Nat} {F G : Nat → Int64} {ad : Bool} {c0 c1 : Int32} {n0 : Nat} {P0 : Nat → Nat} {n1 : Nat} {P1 : Nat → Nat}
theorem gLg_pad {L : Nat} {a : Bool} (gl : gLg S ρ L ks A yn F G ad) (s : cSub S T (fun a => a = L)) (hr : ∀ q, q ≠ 96 → cr T q L = cr S q L) (hi : ∀ q, ci T q L = ci S q L) (hρ : ∀ z, z ∈ cL S → ρ z = 2 → ρ' z = 2) : gLg T ρ' L ks A yn F G ad := by
  obtain ⟨g1, g2, g3⟩ := gl
  obtain ⟨h1, h2, h3, w, a, b, c, ⟨w1, w2, w3⟩, ⟨a1, a2, a3, a4⟩, ⟨b1, b2, b3, b4⟩, ⟨c1, c2, c3, c4⟩, hd⟩ := id g1
  have nL : ∀ {z : Nat}, cA S z 15 → ¬ z = L := fun hz => cA_ne hz h1 (by decide)
  refine ⟨⟨sub_A1 s h1, ⟨(hi _).trans h2.1, h2.2⟩, ⟨(hi _).trans h3.1, h3.2⟩, w, a, b, c, ⟨(hr _ (by decide)).trans w1, sub_A1 s w2, (sub_cn s w2).trans w3⟩, ⟨(hr _ (by decide)).trans a1, sub_A1 s a2, (sub_cn s a2).trans a3, (sub_cJ s a2 (nL a2)).trans a4⟩, ⟨(hr _ (by decide)).trans b1, sub_A1 s b2, (sub_cn s b2).trans b3, (sub_cJ s b2 (nL b2)).trans b4⟩, ⟨(hr _ (by decide)).trans c1, sub_A1 s c2, (sub_cn s c2).trans c3, (sub_cJ s c2 (nL c2)).trans c4⟩, hd⟩, (hi _).trans g2, fun z hz => ?_⟩
  unfold lF at hz
  rw [hr 97 (by decide), hr 99 (by decide), hr 101 (by decide), hr 102 (by decide)] at hz
  exact hρ z (lF_in g1 hz) (g3 z hz)
/-- a new pad is there -/
theorem gLD_pad {L D q κ : Nat} {P' : Nat → Nat} (hx : cA S x 11) (hρ : ρ x = 1) (e1 : cr S 352 x = some L) (e2 : cr S 353 x = some D) (gl : gLg S ρ L ks A yn F G ad) (gd : gDr S ρ D c0 c1 n0 P0 n1 P1) (hq : q ∉ cL S) (s : cSub S T (fun a => a = L)) (c96 : cr T 96 L = some q) (hr : ∀ q, q ≠ 96 → cr T q L = cr S q L) (hi : ∀ q, ci T q L = ci S q L) (hn : tNew S T q) : fr S T ρ (rtg S (padTo κ) ρ 3) [2, 3] ∧ gLD T (rtg S (padTo κ) ρ 3) x 0 P' ks A yn F G ad c0 c1 n0 P0 n1 P1 := by
  have ρL : ρ L = 2 := gl.2.2 L (Or.inl rfl)
  have f : fr S T ρ (rtg S (padTo κ) ρ 3) [2, 3] := ⟨sub_wk s (fun a _ h => by rw [h, ρL]; decide), fun a ha h => (rtg_o ha).trans (if_neg (fun z => h (by rw [z]; decide)))⟩
  have xr : ∀ q, cr T q x = cr S q x := fun q => fr_cr f hx (by rw [hρ]; decide)
  exact ⟨f, fr_A f hx, (f.2 x hx.1 (by rw [hρ]; decide)).trans hρ, L, D, q, (xr _).trans e1, (xr _).trans e2, gLg_pad (a := true) gl s hr hi (fun z hz h2 => (rtg_o hz).trans (by rw [h2]; rfl)), c96, gTx_new hn hq (fun a ha => rtg_n ha), gDr_fr f (by decide) (by decide) (by decide) gd⟩
/-- a new pad, made by the call -/
theorem newPad {L q : Nat} {S3 : cS} {R : cS → Prop} {mc ms : Nat} (hL : cA S L 3) (hq : q ∉ cL S) (e3 : S3 = cNew S q 9) (hm : 3 ≤ mc) (hs : 40 ≤ ms) (h : ∀ T, cSub S T (fun a => a = L) → cr T 96 L = some q → (∀ p', p' ≠ 96 → cr T p' L = cr S p' L) → (∀ p', ci T p' L = ci S p' L) → tNew S T q → R T) : k_X9_init (fun S6 => cA S6 L 3 ∧ ∀ S7, S7 = cSr S6 96 L (some q) → R S7) dp mc ms q S3 := by
  have s3 : cSub S S3 (fun _ => False) := e3 ▸ sub_N hq
  have hq3 : cA S3 q 9 := ⟨hm_No e3, hk_No e3⟩
  have hLq : L ≠ q := cm_nq hq hL.1
  refine q_textInit hq3 hm hs ?_
  intro S6 s6 hn
  have hL3 := sub_A1 s3 hL
  refine ⟨sub_A1 s6 hL3, ?_⟩
  intro S7 e7
  have s37 : cSub S S6 (fun a => a = L) := sub_tr (sub_wk s3 (fun _ _ z => z.elim)) s6 (fun a ha z => absurd z (cm_nq hq ha))
  have s7 : cSub S S7 (fun a => a = L) := sub_tr s37 (e7 ▸ sub_Sr rfl) (fun _ _ z => z)
  refine h S7 s7 (hr_Sr_s e7) ?_ ?_ ?_
  · intro p' hp'
    have e1 : cr S7 p' L = cr S6 p' L := by rw [e7]; exact mU_nq hp'
    rw [e1, sub_cr s6 hL3 hLq, sub_cr s3 hL (fun z => z)]
  · intro p'
    have e1 : ci S7 p' L = ci S6 p' L := by rw [e7]; rfl
    rw [e1, sub_ci s6 hL3 hLq, sub_ci s3 hL (fun z => z)]
  · obtain ⟨n1, n2, n3, a, b, c, ⟨x1, x2, x3⟩, ⟨y1, y2, y3⟩, ⟨z1, z2, z3⟩, ⟨w1, w2, w3⟩, hac⟩ := hn
    have t : ∀ {x k : Nat}, cA S6 x k → cA S7 x k := fun h => ⟨hm_Sr e7 h.1, hk_Sr e7 h.2⟩
    exact ⟨t n1, hi_Sr e7 n2, hi_Sr e7 n3, a, b, c, ⟨fun z => x1 (s3 a z).1.1, fun z => x2 (s3 b z).1.1, fun z => x3 (s3 c z).1.1⟩, ⟨hr_Sr_q e7 (by decide) y1, t y2, hn_Sr e7 y3⟩, ⟨hr_Sr_q e7 (by decide) z1, t z2, hn_Sr e7 z3⟩, ⟨hr_Sr_q e7 (by decide) w1, t w2, hn_Sr e7 w3⟩, hac⟩
theorem g_type {Q : Int32 → cS → Prop} {y : Nat} (g : gLD S ρ x n P ks A yn F G ad c0 c1 n0 P0 n1 P1) (hy : 32 ≤ y ∧ y ≤ 126) (hn : n < 40) (h : ∀ T, fr S T ρ ρ [3] → gLD T ρ x (n + 1) (upR P n y) ks A yn F G ad c0 c1 n0 P0 n1 P1 → Q (nI (n + 1)) T) : k_X11_type Q dp x (nI y) S := by
  obtain ⟨hx, hρ, L, D, p, e1, e2, gl, ep, gp, gd⟩ := g
  obtain ⟨s1, ⟨m, l, t1⟩, p3, pz, a, a1, a2, a3⟩ := id gp
  refine q_type hx e1 gl.1.1 ep s1 hy hn ?_
  rintro T ⟨a', b1, s⟩ ts ti tr
  obtain rfl : a = a' := Option.some.inj (a1.symm.trans b1)
  have f : fr S T ρ ρ [3] := ⟨sub_wk s (fun z _ hz => by
    rcases hz with rfl | rfl
    · rw [p3]; decide
    · rw [a2]; decide), fun _ _ _ => rfl⟩
  have xr : ∀ q, cr T q x = cr S q x := fun q => fr_cr f hx (by rw [hρ]; decide)
  have lr : cr T 96 L = cr S 96 L := fr_cr f gl.1.1 (by rw [gl.2.2 L (Or.inl rfl)]; decide)
  obtain ⟨h1, h2, h3, h4, b, d, b1, b2, b3, d1, d2, d3, hz⟩ := id t1
  have aA : cA S a 14 := by
    obtain ⟨-, -, -, a', q1, q2, -⟩ := s1
    exact Option.some.inj (q1.symm.trans a1) ▸ q2
  have fb : ¬ (b = p ∨ b = a) := by
    rintro (z | z)
    · exact cA_ne b2 h1 (by decide) z
    · exact cA_ne b2 aA (by decide) z
  have fd : ¬ (d = p ∨ d = a) := by
    rintro (z | z)
    · exact cA_ne d2 h1 (by decide) z
    · exact a3 (z ▸ d1)
  refine h T f ⟨fr_A f hx, hρ, L, D, p, (xr _).trans e1, (xr _).trans e2, gLg_fr f (by decide) gl, lr.trans ep, ⟨ts, ⟨m, l, sub_A1 s h1, (ti _ (by decide)).trans h2, h3, h4, b, d, (tr _).trans b1, sub_A1 s b2, (sub_cn s b2).trans b3, (tr _).trans d1, sub_A1 s d2, (sub_cn s d2).trans d3, by rw [sub_cJ s b2 fb, sub_cI s d2 fd]; exact hz⟩, p3, fun z hz => ?_, a, (tr _).trans a1, a2, by rw [tr]; exact a3⟩, gDr_fr f (by decide) (by decide) (by decide) gd⟩
  unfold tF at hz
  rw [tr, tr] at hz
  exact pz z hz
theorem g_readPad {Q : Int32 → cS → Prop} {L p : Nat} (gl : gLg S ρ L ks A yn F G ad) (ep : cr S 96 L = some p) (gp : gTx S ρ 3 p n P) (h : ∀ T, fr S T ρ ρ [2] → gLg T ρ L ks A yn F G ad → cr T 96 L = some p → gTx T ρ 3 p n P → ci T 98 L = nI (wdC P n) → (∀ w, cr T 97 L = some w → ∀ k, k < wdC P n → cJ T w k = lN (wdW P n k)) → Q (nI (wdC P n)) T) : k_X3_readPad Q dp L S := by
  obtain ⟨g1, g2, g3⟩ := gl
  obtain ⟨h1, h2, h3, w, a, b, c, ⟨w1, w2, w3⟩, ⟨a1, a2, a3, a4⟩, ⟨b1, b2, b3, b4⟩, ⟨c1, c2, c3, c4⟩, wa, wb, wc, hd⟩ := id g1
  unfold k_X3_readPad
  refine ⟨h1, p, ep, h1, q_readWordsOf gp.1 ⟨h1, w1, w2, w3⟩ (fun r hr => ?_)⟩
  obtain ⟨T, hT⟩ : ∃ T, T = cRJ (cSi S 98 L (nI (wdC P n))) w r := ⟨_, rfl⟩
  rw [← hT]
  have s1 : cSub S T (fun z => lw S L z) := by
    rw [hT]
    exact sub_tr (sub_Si (Or.inl rfl)) (sub_RJ (F := fun z => lw S L z) (Or.inr w1)) (fun _ _ z => z)
  have f : fr S T ρ ρ [2] := ⟨sub_wk s1 (fun z _ hz => by
    rw [g3 z (hz.elim Or.inl (fun y => Or.inr (Or.inl y)))]; decide), fun _ _ _ => rfl⟩
  have hr2 : ∀ q a, cr T q a = cr S q a := fun q a => by rw [hT]; rfl
  have hi2 : ∀ q, q ≠ 98 → ci T q L = ci S q L := fun q hq => by rw [hT]; exact cSi_nq (S := S) hq
  have hJ2 : ∀ a, a ≠ w → cJ T a = cJ S a := fun a ha => by rw [hT]; exact sR_n ha
  have hJw : cJ T w = r := by rw [hT]; exact sR_s
  have e98 : ci T 98 L = nI (wdC P n) := by
    rw [hT]; show ci (cSi S 98 L (nI (wdC P n))) 98 L = nI (wdC P n); exact cSi_at
  refine ⟨sub_A1 s1 h1, ?_⟩
  rw [e98]
  refine h T f ⟨⟨sub_A1 s1 h1, ⟨(hi2 _ (by decide)).trans h2.1, h2.2⟩, ⟨(hi2 _ (by decide)).trans h3.1, h3.2⟩, w, a, b, c, ⟨(hr2 _ _).trans w1, sub_A1 s1 w2, (sub_cn s1 w2).trans w3⟩, ⟨(hr2 _ _).trans a1, sub_A1 s1 a2, (sub_cn s1 a2).trans a3, (hJ2 a (Ne.symm wa)).trans a4⟩, ⟨(hr2 _ _).trans b1, sub_A1 s1 b2, (sub_cn s1 b2).trans b3, (hJ2 b (Ne.symm wb)).trans b4⟩, ⟨(hr2 _ _).trans c1, sub_A1 s1 c2, (sub_cn s1 c2).trans c3, (hJ2 c (Ne.symm wc)).trans c4⟩, wa, wb, wc, hd⟩, (hi2 _ (by decide)).trans g2, fun z hz => ?_⟩ ((hr2 _ _).trans ep) (gTx_fr f (by decide) gp) e98 (fun w' hw' k hk => ?_)
  · unfold lF at hz
    simp only [hr2] at hz
    exact g3 z hz
  · obtain rfl : w = w' := Option.some.inj (w1.symm.trans ((hr2 _ _).symm.trans hw'))
    rw [hJw]; exact hr k hk
end LDs
