/-! the class: leaves are put behind the parts -/
/-- the tokens of the pad, synonyms left aside -/
noncomputable def tk0 (ks : Nat) (A F G : Nat → Int64) (P : Nat → Nat) (n : Nat) : List (Int64 × Nat) := tkL F G 0 (fun c => anyB (fun j => A j == c) ks) (fun k => lN (stW (wdW P n k))) (wdC P n)
/-- the parts -/
def gPr (S : cS) (ρ : Nat → Nat) (dp x m : Nat) (nd : Nat → Nd) : Prop := ∃ q, cr S 362 x = some q ∧ gQy S ρ dp 13 12 q m nd
/-- the queries -/
def gQl (S : cS) (ρ : Nat → Nat) (dp x : Nat) (qs : List (Nat × (Nat → Nd))) : Prop := ∃ ql l lm, cr S 363 x = some ql ∧ lsT S dp ql 6 l lm ∧ (∀ z, lsF S dp ql z → ρ z = 16) ∧ (lm = 0 ∨ 10 ≤ lm) ∧ 2 * lm ≤ 20 + 3 * l.length ∧ parL (fun q e => gQy S ρ dp 17 17 q e.1 e.2) l qs
section QO
variable {S T U : cS} {ρ ρ' ρ'' : Nat → Nat} {M : List Nat} {dp x n m : Nat} {P : Nat → Nat} {ks : Nat} {A : Nat → Int64} {yn : Nat} {F G : Nat → Int64} {ad : Bool} {c0 c1 : Int32} {n0 : Nat} {P0 : Nat → Nat} {n1 : Nat} {P1 : Nat → Nat} {nd : Nat → Nd} {qs : List (Nat × (Nat → Nd))}
theorem gQy_f (h : fr S T ρ ρ' M) {τ κ q : Nat} (h1 : τ ∉ M) (h2 : κ ∉ M) (h18 : 18 ∉ M) (g : gQy S ρ dp τ κ q m nd) : gQy T ρ' dp τ κ q m nd := gQy_fr h h1 h2 (fun a ha e => fr_tg h ha e h18) g
theorem gPr_f (h : fr S T ρ ρ' M) (h13 : 13 ∉ M) (h12 : 12 ∉ M) (h18 : 18 ∉ M) (hx : cr T 362 x = cr S 362 x) (g : gPr S ρ dp x m nd) : gPr T ρ' dp x m nd := by
  obtain ⟨q, e, g⟩ := g
  exact ⟨q, hx.trans e, gQy_f h h13 h12 h18 g⟩
theorem gQl_f (h : fr S T ρ ρ' M) (h16 : 16 ∉ M) (h17 : 17 ∉ M) (h18 : 18 ∉ M) (hx : cr T 363 x = cr S 363 x) (g : gQl S ρ dp x qs) : gQl T ρ' dp x qs := by
  obtain ⟨ql, l, lm, e, g1, g2, g3, g4, g5⟩ := g
  obtain ⟨k1, k2⟩ := fr_ls h h16 g1 g2
  exact ⟨ql, l, lm, hx.trans e, k1, k2, g3, g4, parL_imp (fun q e g => gQy_f h h17 h17 h18 g) g5⟩
theorem gLD_f (h : fr S T ρ ρ' M) (hM : [2, 3, 4, 5, 6].all (fun τ => !M.contains τ) = true) (hρ : ρ' x = 1) (hr : ∀ q, q = 352 ∨ q = 353 → cr T q x = cr S q x) (g : gLD S ρ x n P ks A yn F G ad c0 c1 n0 P0 n1 P1) : gLD T ρ' x n P ks A yn F G ad c0 c1 n0 P0 n1 P1 := by
  obtain ⟨hx, -, L, D, p, e1, e2, gl, ep, gp, gd⟩ := g
  have nM : ∀ τ, τ ∈ [2, 3, 4, 5, 6] → τ ∉ M := fun τ hτ hin => by
    have := List.all_eq_true.mp hM τ hτ
    rw [List.contains_iff_mem.mpr hin] at this
    exact Bool.noConfusion this
  exact ⟨fr_A h hx, hρ, L, D, p, (hr _ (Or.inl rfl)).trans e1, (hr _ (Or.inr rfl)).trans e2, gLg_fr h (nM 2 (by decide)) gl, (fr_cr h gl.1.1 (by rw [gl.2.2 L (Or.inl rfl)]; exact nM 2 (by decide))).trans ep, gTx_fr h (nM 3 (by decide)) gp, gDr_fr h (nM 4 (by decide)) (nM 5 (by decide)) (nM 6 (by decide)) gd⟩
theorem tk0_le : (tk0 ks A F G P n).length ≤ wdC P n := by
  have := tkL_len (F := F) (S := G) (yn := 0) (stp := fun c => anyB (fun j => A j == c) ks) (st := fun k => lN (stW (wdW P n k))) (wdC P n)
  rw [Nat.zero_add, Nat.one_mul] at this
  exact this
theorem tk0_mono (hn : n ≤ 40) {i : Nat} (hi : i < (tk0 ks A F G P n).length) (h0 : 0 < i) : ((tk0 ks A F G P n).getD (i - 1) (0, 0)).2 ≤ ((tk0 ks A F G P n).getD i (0, 0)).2 := by
  have hw := wdC_le P n
  have ok := (tk_ok (F := F) (S := G) (yn := 0) (stp := fun c => anyB (fun j => A j == c) ks) (st := fun k => lN (stW (wdW P n k))) (n := wdC P n) (by omega) (by omega)).1
  obtain ⟨u, hu⟩ := get_ex hi
  obtain ⟨v, hv⟩ := get_ex (l := tk0 ks A F G P n) (k := i - 1) (by omega)
  have := (ok.2.2 (i - 1) i v u (by omega) hv hu).1
  rw [List.getD_eq_getElem?_getD, List.getD_eq_getElem?_getD, hu, hv]
  exact this
/-- the pad is made to tokens -/
theorem g_padTok {Q : Int32 → cS → Prop} {L mc ms : Nat} (g : gLD S ρ x n P ks A yn F G ad c0 c1 n0 P0 n1 P1) (eL : cr S 352 x = some L) (hm : 222 ≤ mc) (hs : 1776 ≤ ms) (h : ∀ T ρ' p m', fr S T ρ ρ' [2, 3] → gLD T ρ' x n P ks A yn F G ad c0 c1 n0 P0 n1 P1 → (∀ q, cr T q x = cr S q x) → cr T 96 L = some p → tTk T p m' (tk0 ks A F G P n) → Q (nI (tk0 ks A F G P n).length) T) : k_X3_readPadTokens Q dp mc ms L S := by
  obtain ⟨hx, hρ, L', D, p, e1, e2, gl, ep, gp, gd⟩ := g
  obtain rfl : L = L' := Option.some.inj (eL.symm.trans e1)
  obtain ⟨m0, l0, t0⟩ := gp.2.1
  unfold k_X3_readPadTokens
  refine ⟨gl.1.1, p, ep, gl.1.1, 222, 1776, by omega, by omega, ?_⟩
  show k_X3_tokenise _ dp _ _ L p (bI false) S
  have hd : ∀ z, lF S L z → ¬ tF S p z := fun z hz hz2 => by
    have a1 := gl.2.2 z hz
    have a2 := gp.2.2.2.1 z hz2
    omega
  refine q_tokenise gl.1 gp.1 t0 hd (Nat.le_refl _) (Nat.le_refl _) (fun T m' s2 g2 i2 r2 tk2 z2 ti2 tr2 => ?_)
  rw [if_neg (by decide)] at tk2
  have lwF : ∀ a, lw S L a → ρ a = 2 := fun a ha => gl.2.2 a (ha.elim Or.inl (fun y => Or.inr (Or.inl y)))
  have f : fr S T ρ (rtg S id ρ 3) [2, 3] := ⟨sub_wk s2 (fun a _ h => by
    rcases h with h | h
    · rw [lwF a h]; decide
    · rw [gp.2.2.2.1 a h]; decide), fun a ha _ => rtg_o ha⟩
  have xr : ∀ q, cr T q x = cr S q x := fun q => fr_cr f hx (by rw [hρ]; decide)
  have hρ' : rtg S id ρ 3 x = 1 := (rtg_o hx.1).trans hρ
  have pad : cr T 96 L = some p := (r2 _).trans ep
  have pA := sub_A1 s2 gp.1.1
  refine ⟨sub_A1 s2 gl.1.1, p, pad, pA, ⟨by omega, by omega⟩, ?_⟩
  rw [tk2.2.1]
  exact h T _ p m' f ⟨fr_A f hx, hρ', L, D, p, (xr _).trans e1, (xr _).trans e2, gLg_tok (m' := m') (t := p) (l' := l0) gl g2 i2 r2, pad, gTx_tok gp s2 (fun a ha hk => ha.elim (fun y => absurd ((lwF a y).symm.trans hk) (by decide)) id) tk2 z2 ti2 tr2, gDr_fr f (by decide) (by decide) (by decide) gd⟩ xr pad tk2
/-- the pad is taken -/
theorem g_padTake {Q : Nat → cS → Prop} {L p mc ms : Nat} {P' : Nat → Nat} (g : gLD S ρ x n P ks A yn F G ad c0 c1 n0 P0 n1 P1) (eL : cr S 352 x = some L) (ep' : cr S 96 L = some p) (hm : 4 ≤ mc) (hs : 45 ≤ ms) (h : ∀ T ρ', fr S T ρ ρ' [2, 3] → gLD T ρ' x 0 P' ks A yn F G ad c0 c1 n0 P0 n1 P1 → (∀ q, cr T q x = cr S q x) → tSg T p n P → (∀ m' l, tTk S p m' l → tTk T p m' l) → (∀ q, q ≠ 96 → cr T q L = cr S q L) → (∀ q, ci T q L = ci S q L) → (∀ z, cr S 97 L = some z → cJ T z = cJ S z) → Q p T) : k_X3_takePad Q dp mc ms L S := by
  obtain ⟨hx, hρ, L', D, p', e1, e2, gl, ep, gp, gd⟩ := g
  obtain rfl : L = L' := Option.some.inj (eL.symm.trans e1)
  obtain rfl : p = p' := Option.some.inj (ep'.symm.trans ep)
  refine q_takePad gl.1.1 ep hm hs (fun T q hq s c96 hr hi hn => ?_)
  obtain ⟨f, g'⟩ := gLD_pad (κ := 99) (P' := P') hx hρ e1 e2 gl gd hq s c96 hr hi hn
  have ρL : ρ L = 2 := gl.2.2 L (Or.inl rfl)
  have nL : ∀ {z : Nat}, ρ z = 3 → ¬ z = L := fun h3 e => by rw [e, ρL] at h3; exact absurd h3 (by decide)
  refine h T _ f g' (fun q => fr_cr f hx (by rw [hρ]; decide)) (tSg_sub s gp.1 (nL gp.2.2.1) (fun a ha => ?_)) (fun m' l t => tTk_sub s t (fun z hz => nL (gp.2.2.2.1 z hz))) hr hi (fun z hz => ?_)
  · obtain ⟨a', h1, h2, -⟩ := gp.2.2.2.2
    obtain rfl : a' = a := Option.some.inj (h1.symm.trans ha)
    exact nL h2
  · obtain ⟨-, -, -, w, -, -, -, ⟨w1, w2, -⟩, -⟩ := gl.1
    obtain rfl : w = z := Option.some.inj (w1.symm.trans hz)
    exact sub_cJ s w2 (cA_ne w2 gl.1.1 (by decide))
theorem q_checkLeaf {Q : cS → Prop} (hx : cA S x 11) (g : gPr S ρ dp x m nd) (h1 : (qsS nd m).1 < 8) (h2 : (lfI nd m).length < 24) (h : Q S) : k_X11_checkLeaf Q dp x (nI 1) S := by
  obtain ⟨q, e, g1, g2, g3, ⟨nl, ws, wm, ll, ls, lm, -, ⟨l1, l2, l3, l4, l5, l6⟩, -⟩, -⟩ := g
  have hl := parL_len l6
  unfold k_X11_checkLeaf
  refine ⟨fun c => absurd c (by decide), fun _ => ⟨hx, q, e, g1, ?_⟩⟩
  rw [g3]
  exact pk_le 8 (qsS nd m).1 (fun z => absurd z (by omega)) (fun _ => ⟨hx, q, e, g1, ll, l1, l2.1, q_lsize l2 (pk_lt ls.length 24 (fun _ => h) (fun z => absurd z (by omega)))⟩)
theorem x_checkLeaf {Q : cS → Prop} {b : Bool} {mc ms : Nat} (hx : cA S x 11) (g : gPr S ρ dp x m nd) (h48 : m ≤ 48) (h8 : (qsS nd m).1 < 100) (h0 : b = false ∨ 8 ≤ (qsS nd m).1 ∨ 24 ≤ (lfI nd m).length) (hm : 1 ≤ mc) (hs : 6 ≤ ms) (h : Q S) : kx_X11_checkLeaf "java/lang/IllegalStateException" Q dp mc ms x (bI b) S := by
  obtain ⟨q, e, g1, g2, g3, ⟨nl, ws, wm, ll, ls, lm, -, ⟨l1, l2, l3, l4, l5, l6⟩, -⟩, -⟩ := g
  have hl := parL_len l6
  have hl2 := lfI_len nd m
  have bd : (0 + 1 ≤ mc ∧ 0 + 6 ≤ ms) := ⟨by omega, by omega⟩
  unfold kx_X11_checkLeaf
  refine w_b0 b (fun _ => ⟨rfl, bd, h⟩) (fun hb => ⟨hx, q, e, g1, ?_⟩)
  rw [g3]
  refine pk_le 8 (qsS nd m).1 (fun _ => ⟨rfl, bd, h⟩) (fun z => ⟨hx, q, e, g1, ll, l1, l2.1, ⟨by omega, by omega⟩, q_lsize l2 (pk_lt ls.length 24 (fun z2 => ?_) (fun _ => ⟨rfl, bd, h⟩))⟩)
  rcases h0 with c | c | c
  · rw [hb] at c; exact absurd c (by decide)
  · omega
  · omega
/-- a leaf is put behind the parts -/
theorem g_putLeaf {Q : Int32 → cS → Prop} {q p mc ms : Nat} {d : Nd} (hx : cA S x 11) (hρ : ρ x = 1) (g : gPr S ρ dp x m nd) (eq : cr S 362 x = some q) (f : fr S T ρ ρ' []) (hp : p ∉ cL S) (hn : ndT T ρ' 12 p d false) (hlf : nLf d = true) (h1 : (qsS nd m).1 < 8) (hm47 : m ≤ 47) (hdp : dpO dp T) (hm : 2 ≤ mc) (hs : 260 ≤ ms) (h : ∀ U ρ'', fr T U ρ' ρ'' [13] → (∀ a, a ∈ cL T → ρ'' a = ρ' a) → (∀ z, cr U z x = cr T z x) → gPr U ρ'' dp x (m + 1) (upR nd m d) → Q (nI ((qsS nd m).1 + 1)) U) : k_X6_putLeaf Q dp mc ms q p T := by
  obtain ⟨q', e, g⟩ := g
  obtain rfl : q = q' := Option.some.inj (eq.symm.trans e)
  have xT := fr_A f hx
  have ρT : ρ' x = 1 := fr_tg f hx.1 hρ (by simp)
  refine q_putLeaf g f hp hn hlf h1 hm47 hdp hm hs (fun U ρ'' f2 t2 gU => ?_)
  have xr : ∀ z, cr U z x = cr T z x := fun z => fr_cr f2 xT (by rw [ρT]; decide)
  refine h U ρ'' f2 t2 xr ⟨q, (xr _).trans ((fr_cr f hx (by simp)).trans e), ?_⟩
  have e1 : qsS (upR nd m d) m = qsS nd m := qsS_ext (fun j hj => upR_n (by omega))
  unfold gQy
  rw [qsS, upR_s, if_pos hlf, e1]
  exact gU
end QO
