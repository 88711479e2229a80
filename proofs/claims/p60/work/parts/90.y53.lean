/-! queries: parts -/
def nLf (d : Nd) : Bool := decide (nK d < 6)
/-- after k nodes: how many parts, where they begin, and which nodes are set aside -/
def qsS (nd : Nat → Nd) : Nat → Nat × (Nat → Nat) × (Nat → Bool)
  | 0 => (0, fun _ => 0, fun _ => false)
  | k + 1 => if nLf (nd k) = true then ((qsS nd k).1 + 1, upR (qsS nd k).2.1 (qsS nd k).1 k, upR (qsS nd k).2.2 k false) else ((qsS nd k).1 - (nP (nd k) - 1), (qsS nd k).2.1, upR (fun j => if nK (nd k) = 7 ∧ (qsS nd k).2.1 ((qsS nd k).1 - 1) ≤ j ∧ j < k then true else (qsS nd k).2.2 j) k false)
/-- which nodes are leaves -/
def lfI (nd : Nat → Nd) : Nat → List Nat
  | 0 => []
  | k + 1 => lfI nd k ++ (if nLf (nd k) = true then [k] else [])
theorem qsS_ext {nd nd' : Nat → Nd} : ∀ {k : Nat}, (∀ j, j < k → nd j = nd' j) → qsS nd k = qsS nd' k
  | 0, _ => rfl
  | k + 1, h => by rw [qsS, qsS, qsS_ext (k := k) (fun j hj => h j (by omega)), h k (by omega)]
theorem lfI_ext {nd nd' : Nat → Nd} : ∀ {k : Nat}, (∀ j, j < k → nd j = nd' j) → lfI nd k = lfI nd' k
  | 0, _ => rfl
  | k + 1, h => by rw [lfI, lfI, lfI_ext (k := k) (fun j hj => h j (by omega)), h k (by omega)]
theorem lfI_lt {nd : Nat → Nd} : ∀ {k i : Nat}, i ∈ lfI nd k → i < k ∧ nLf (nd i) = true
  | 0, i, h => absurd h List.not_mem_nil
  | k + 1, i, h => by
    rw [lfI] at h
    rcases List.mem_append.mp h with h | h
    · have := lfI_lt h; exact ⟨by omega, this.2⟩
    · by_cases c : nLf (nd k) = true
      · rw [if_pos c] at h
        rw [List.mem_singleton.mp h]; exact ⟨by omega, c⟩
      · rw [if_neg c] at h; exact absurd h List.not_mem_nil
theorem lfI_len (nd : Nat → Nd) : ∀ k, (lfI nd k).length ≤ k
  | 0 => Nat.le_refl _
  | k + 1 => by
    have := lfI_len nd k
    rw [lfI, List.length_append]
    split
    · show _ + 1 ≤ _; omega
    · show _ + 0 ≤ _; omega
/-- a query's object -/
def gQz (S : cS) (ρ : Nat → Nat) (dp τ κ q m : Nat) (nd : Nat → Nd) (pn : Nat) (st : Nat → Nat) (fl : Nat → Bool) : Prop := cA S q 6 ∧ ρ q = τ ∧ ci S 195 q = nI pn ∧ (∃ nl ws wm ll ls lm, (cr S 192 q = some nl ∧ lsT S dp nl 4 ws wm ∧ (∀ z, lsF S dp nl z → ρ z = τ) ∧ (wm = 0 ∨ 10 ≤ wm) ∧ 2 * wm ≤ 20 + 3 * m ∧ ws.length = m ∧ (∀ (j k p : Nat), ws[j]? = some p → ws[k]? = some p → j = k) ∧ ∀ (k p : Nat), ws[k]? = some p → ndT S ρ κ p (nd k) (fl k)) ∧ (cr S 193 q = some ll ∧ lsT S dp ll 4 ls lm ∧ (∀ z, lsF S dp ll z → ρ z = τ) ∧ (lm = 0 ∨ 10 ≤ lm) ∧ 2 * lm ≤ 20 + 3 * m ∧ parL (fun p k => ws[k]? = some p) ls (lfI nd m)) ∧ ∀ z, lsF S dp nl z → ¬ lsF S dp ll z) ∧ (∃ a, cr S 194 q = some a ∧ cA S a 14 ∧ cn S a = 8 ∧ ρ a = τ ∧ ∀ j, j < pn → cI S a j = nI (st j)) ∧ ∃ b, cr S 196 q = some b ∧ cA S b 14 ∧ cn S b = 8 ∧ ρ b = 18
def gQy (S : cS) (ρ : Nat → Nat) (dp τ κ q m : Nat) (nd : Nat → Nd) : Prop := gQz S ρ dp τ κ q m nd (qsS nd m).1 (qsS nd m).2.1 (qsS nd m).2.2
section QU
variable {S T U : cS} {ρ ρ' : Nat → Nat} {dp τ κ q m pn : Nat} {M : List Nat} {nd : Nat → Nd} {st : Nat → Nat} {fl : Nat → Bool}
theorem lsF_eq {a kk wm z : Nat} {l : List Nat} {F : Nat → Prop} (s : cSub S T F) (g : lsT S dp a kk l wm) (hF : ¬ F a) : lsF T dp a z ↔ lsF S dp a z := by
  unfold lsF
  rw [sub_cr s g.1 hF]
theorem gQz_fr (h : fr S T ρ ρ' M) (h1 : τ ∉ M) (h2 : κ ∉ M) (h18 : ∀ a, a ∈ cL S → ρ a = 18 → ρ' a = 18) (g : gQz S ρ dp τ κ q m nd pn st fl) : gQz T ρ' dp τ κ q m nd pn st fl := by
  obtain ⟨g1, g2, g3, ⟨nl, ws, wm, ll, ls, lm, ⟨n1, n2, n3, n4, n5, n6, n7, n8⟩, ⟨l1, l2, l3, l4, l5, l6⟩, hd⟩, ⟨a, a1, a2, a3, a4, a5⟩, ⟨b, b1, b2, b3, b4⟩⟩ := g
  have fq : ρ q ∉ M := by rw [g2]; exact h1
  have rr : ∀ p, cr T p q = cr S p q := fun p => fr_cr h g1 fq
  obtain ⟨x1, x2⟩ := fr_ls h h1 n2 n3
  obtain ⟨y1, y2⟩ := fr_ls h h1 l2 l3
  have nM : ∀ {z : Nat}, ρ z = τ → ρ z ∉ M := fun e => by rw [e]; exact h1
  refine ⟨fr_A h g1, fr_tg h g1.1 g2 h1, (fr_ci h g1 fq).trans g3, ⟨nl, ws, wm, ll, ls, lm, ⟨(rr _).trans n1, x1, x2, n4, n5, n6, n7, fun k p hk => ndT_fr h h2 h18 (n8 k p hk)⟩, ⟨(rr _).trans l1, y1, y2, l4, l5, l6⟩, fun z hz => ?_⟩, ⟨a, (rr _).trans a1, fr_A h a2, (sub_cn h.1 a2).trans a3, fr_tg h a2.1 a4 h1, by rw [sub_cI h.1 a2 (nM a4)]; exact a5⟩, ⟨b, (rr _).trans b1, fr_A h b2, (sub_cn h.1 b2).trans b3, h18 b b2.1 b4⟩⟩
  rw [lsF_eq h.1 n2 (nM (n3 nl (Or.inl rfl)))] at hz
  rw [lsF_eq h.1 l2 (nM (l3 ll (Or.inl rfl)))]
  exact hd z hz
theorem gQy_fr (h : fr S T ρ ρ' M) (h1 : τ ∉ M) (h2 : κ ∉ M) (h18 : ∀ a, a ∈ cL S → ρ a = 18 → ρ' a = 18) (g : gQy S ρ dp τ κ q m nd) : gQy T ρ' dp τ κ q m nd := gQz_fr h h1 h2 h18 g
/-- tags of queries change alone -/
theorem ndT_tg {κ' p : Nat} {d : Nd} {b : Bool} (h : ∀ a, ρ a = κ → ρ' a = κ') (h18 : ∀ a, ρ a = 18 → ρ' a = 18) (g : ndT S ρ κ p d b) : ndT S ρ' κ' p d b := by
  obtain ⟨g1, g2, gi, gw, ⟨a, a1, a2, a3, a4, a5⟩, ⟨c, c1, c2, c3, c4, c5⟩, ⟨e, e1, e2, e3, e4, e5⟩, ⟨u, u1, u2, u3, u4⟩⟩ := g
  exact ⟨g1, h _ g2, gi, gw, ⟨a, a1, a2, a3, h _ a4, a5⟩, ⟨c, c1, c2, c3, h _ c4, c5⟩, ⟨e, e1, e2, e3, h _ e4, e5⟩, ⟨u, u1, u2, u3, h18 _ u4⟩⟩
theorem gQz_tg {τ' κ' : Nat} (h1 : ∀ a, ρ a = τ → ρ' a = τ') (h2 : ∀ a, ρ a = κ → ρ' a = κ') (h18 : ∀ a, ρ a = 18 → ρ' a = 18) (g : gQz S ρ dp τ κ q m nd pn st fl) : gQz S ρ' dp τ' κ' q m nd pn st fl := by
  obtain ⟨g1, g2, g3, ⟨nl, ws, wm, ll, ls, lm, ⟨n1, n2, n3, n4, n5, n6, n7, n8⟩, ⟨l1, l2, l3, l4, l5, l6⟩, hd⟩, ⟨a, a1, a2, a3, a4, a5⟩, ⟨b, b1, b2, b3, b4⟩⟩ := g
  exact ⟨g1, h1 _ g2, g3, ⟨nl, ws, wm, ll, ls, lm, ⟨n1, n2, fun z hz => h1 _ (n3 z hz), n4, n5, n6, n7, fun k p hk => ndT_tg h2 h18 (n8 k p hk)⟩, ⟨l1, l2, fun z hz => h1 _ (l3 z hz), l4, l5, l6⟩, hd⟩, ⟨a, a1, a2, a3, h1 _ a4, a5⟩, ⟨b, b1, b2, b3, h18 _ b4⟩⟩
theorem gQz_ext {nd' : Nat → Nd} {fl' : Nat → Bool} {st' : Nat → Nat} (hn : ∀ k, k < m → nd' k = nd k) (hf : ∀ k, k < m → fl' k = fl k) (hs : ∀ j, j < pn → st' j = st j) (g : gQz S ρ dp τ κ q m nd pn st fl) : gQz S ρ dp τ κ q m nd' pn st' fl' := by
  obtain ⟨g1, g2, g3, ⟨nl, ws, wm, ll, ls, lm, ⟨n1, n2, n3, n4, n5, n6, n7, n8⟩, ⟨l1, l2, l3, l4, l5, l6⟩, hd⟩, ⟨a, a1, a2, a3, a4, a5⟩, hb⟩ := g
  refine ⟨g1, g2, g3, ⟨nl, ws, wm, ll, ls, lm, ⟨n1, n2, n3, n4, n5, n6, n7, fun k p hk => ?_⟩, ⟨l1, l2, l3, l4, l5, by rw [lfI_ext (fun j hj => hn j hj)]; exact l6⟩, hd⟩, ⟨a, a1, a2, a3, a4, fun j hj => by rw [hs j hj]; exact a5 j hj⟩, hb⟩
  have hkm : k < m := by have := get_lt hk; omega
  rw [hn k hkm, hf k hkm]; exact n8 k p hk
/-- what a query's own cells are -/
theorem gwL_b {wm W : Nat} {l : List Nat} (h1 : l.length ≤ wm) (h2 : wm = 0 ∨ 10 ≤ wm) (h3 : 2 * wm ≤ 20 + 3 * W) (h4 : l.length ≤ W) (hW : W ≤ 48) : (if l.length = wm then 1 else 0) ≤ 1 ∧ (if l.length = wm then gwL wm wm else 0) ≤ 130 ∧ (gwL wm l.length = 0 ∨ 10 ≤ gwL wm l.length) ∧ 2 * gwL wm l.length ≤ 20 + 3 * (W + 1) ∧ wm < 5000 := by
  have h5 := (gwL_le h1 h3 h4).1
  refine ⟨by split <;> omega, ?_, ?_, h5, by omega⟩
  · split
    · have : gwL wm wm ≤ 130 := by unfold gwL; rw [if_pos rfl]; split <;> omega
      exact this
    · omega
  · unfold gwL
    split
    · split <;> omega
    · exact h2
set_option maxHeartbeats 1000000 in
/-- a leaf is put -/
theorem q_putLeaf {Q : Int32 → cS → Prop} {S0 : cS} {ρ0 : Nat → Nat} {mc ms p : Nat} {d : Nd} (g : gQz S0 ρ0 dp 13 12 q m nd pn st fl) (f : fr S0 S ρ0 ρ []) (hp : p ∉ cL S0) (hn : ndT S ρ 12 p d false) (hlf : nLf d = true) (hpn : pn < 8) (hm48 : m ≤ 47) (hdp : dpO dp S) (hm : 2 ≤ mc) (hs : 260 ≤ ms)
    (h : ∀ T ρ', fr S T ρ ρ' [13] → (∀ a, a ∈ cL S → ρ' a = ρ a) → gQz T ρ' dp 13 12 q (m + 1) (upR nd m d) (pn + 1) (upR st pn m) (upR fl m false) → Q (nI (pn + 1)) T) : k_X6_putLeaf Q dp mc ms q p S := by
  have hws0 : ∀ ws nl wm, cr S0 192 q = some nl → lsT S0 dp nl 4 ws wm → p ∉ ws := fun ws nl wm _ ht hin => hp (ht.2.2.2.2.2.1 p hin).1
  have h18f : ∀ a, a ∈ cL S0 → ρ0 a = 18 → ρ a = 18 := fun a ha e => fr_tg f ha e (by simp)
  obtain ⟨G1, G2, G3, ⟨nl, ws, wm, ll, ls, lm, ⟨N1, N2, N3, N4, N5, N6, N7, N8⟩, ⟨L1, L2, L3, L4, L5, L6⟩, HD⟩, ⟨a, A1, A2, A3, A4, A5⟩, ⟨b, B1, B2, B3, B4⟩⟩ := id g
  have hpw : p ∉ ws := hws0 ws nl wm N1 N2
  have rr0 : ∀ p, cr S p q = cr S0 p q := fun p => fr_cr f G1 (by simp)
  obtain ⟨n2, n3⟩ := fr_ls f (by simp) N2 N3
  obtain ⟨l2, l3⟩ := fr_ls f (by simp) L2 L3
  have g1 := fr_A f G1
  have g2 : ρ q = 13 := fr_tg f G1.1 G2 (by simp)
  have g3 : ci S 195 q = nI pn := (fr_ci f G1 (by simp)).trans G3
  have a1 := (rr0 _).trans A1
  have a2 := fr_A f A2
  have a3 := (sub_cn f.1 A2).trans A3
  have a4 : ρ a = 13 := fr_tg f A2.1 A4 (by simp)
  have a5 : ∀ j, j < pn → cI S a j = nI (st j) := by rw [sub_cI f.1 A2 (by simp)]; exact A5
  have n8 : ∀ (k p : Nat), ws[k]? = some p → ndT S ρ 12 p (nd k) (fl k) := fun k p hk => ndT_fr f (by simp) h18f (N8 k p hk)
  have hd : ∀ z, lsF S dp nl z → ¬ lsF S dp ll z := fun z hz => by
    rw [lsF_eq f.1 N2 (by simp)] at hz
    rw [lsF_eq f.1 L2 (by simp)]
    exact HD z hz
  obtain ⟨z1, z2, z3, z4, z5⟩ := gwL_b n2.2.2.1 N4 N5 (by omega) (by omega)
  have lsl : ls.length ≤ m := by have h1 := parL_len L6; have h2 := lfI_len nd m; omega
  obtain ⟨y1, y2, y3, y4, y5⟩ := gwL_b l2.2.2.1 L4 L5 lsl (by omega)
  unfold k_X6_putLeaf
  refine ⟨g1, g1, a, a1, a2, fun c => ?_, fun c => ?_⟩
  · rw [a3, g3] at c
    exact absurd ((nI_leI (by decide) (by omega)).mp c) (by omega)
  refine ⟨g1, a, a1, g1, g1, nl, (rr0 _).trans N1, n2.1, ⟨by omega, by omega⟩, q_lsize n2 ?_⟩
  rw [g3, N6]
  refine ⟨cX_mk a2 a3 (by decide) hpn rfl, fun S5 e5 => ?_⟩
  rw [nI_clamp (by omega)] at e5
  have s5 : cSub S S5 (fun z => z = a) := e5 ▸ sub_SI rfl
  have q5 := sub_A1 s5 g1
  have c5 : ci S5 195 q = nI pn := by rw [e5]; exact g3
  refine ⟨q5, q5, fun S6 e6 => ?_⟩
  rw [c5, nI_add] at e6
  have u6 : cSub S5 S6 (fun z => z = q) := e6 ▸ sub_Si rfl
  have s6 : cSub S S6 (fun z => z = a ∨ z = q) := sub_tr (sub_wk s5 (fun _ _ z => Or.inl z)) (sub_wk u6 (fun _ _ z => Or.inr z)) (fun _ _ z => z)
  have q6 := sub_A1 s6 g1
  have r6 : ∀ x y, cr S6 x y = cr S x y := fun x y => by rw [e6, e5]; rfl
  have f6 : fr S S6 ρ ρ [13] := ⟨sub_wk s6 (fun z _ hz => by rcases hz with e | e <;> rw [e]; rw [a4]; decide; rw [g2]; decide), fun _ _ _ => rfl⟩
  have n6 : lsT S6 dp nl 4 ws wm := lsT_sub s6 n2 (fun z hz hz2 => hz2.elim (fun e => ls_nk n2 hz a2 (by decide) (by decide) e) (fun e => ls_nk n2 hz g1 (by decide) (by decide) e))
  have l6 : lsT S6 dp ll 4 ls lm := lsT_sub s6 l2 (fun z hz hz2 => hz2.elim (fun e => ls_nk l2 hz a2 (by decide) (by decide) e) (fun e => ls_nk l2 hz g1 (by decide) (by decide) e))
  have F6 : ∀ x z, lsF S6 dp x z ↔ lsF S dp x z := fun x z => by unfold lsF; rw [r6]
  have p6 : cA S6 p 4 := fr_A f6 hn.1
  refine ⟨q6, nl, (r6 _ _).trans ((rr0 _).trans N1), n6.1, 1, 130, by omega, by omega, q_ladd dp_O n6 z5 p6 z1 z2 (fun S10 v10 t10 => ?_)⟩
  obtain ⟨ρ1, hρ1⟩ : ∃ r, r = rtg S6 id ρ 13 := ⟨_, rfl⟩
  have f10 : fr S6 S10 ρ ρ1 [13] := ⟨sub_wk v10.1 (fun z _ hz => by rw [n3 z ((F6 _ _).mp hz)]; decide), fun z hz _ => by rw [hρ1]; exact rtg_o hz⟩
  have q10 : cA S10 q 6 := fr_A f10 q6
  have nq : ¬ lsF S6 dp nl q := fun hz => ls_nk n6 hz q6 (by decide) (by decide) rfl
  have r10 : ∀ x, cr S10 x q = cr S6 x q := fun x => sub_cr v10.1 q6 nq
  have i10 : ∀ x, ci S10 x q = ci S6 x q := fun x => sub_ci v10.1 q6 nq
  have l10 : lsT S10 dp ll 4 ls lm := lsT_sub v10.1 l6 (fun z hz hz2 => hd z ((F6 _ _).mp hz2) ((F6 _ _).mp hz))
  have p10 : cA S10 p 4 := fr_A f10 p6
  refine ⟨q10, ll, (r10 _).trans ((r6 _ _).trans ((rr0 _).trans L1)), l10.1, 1, 130, by omega, by omega, q_ladd dp_O l10 y5 p10 y1 y2 (fun S14 v14 t14 => ?_)⟩
  obtain ⟨ρ2, hρ2⟩ : ∃ r, r = rtg S10 id ρ1 13 := ⟨_, rfl⟩
  have nll : ¬ lsF S6 dp nl ll := fun hz => hd ll ((F6 _ _).mp hz) (Or.inl rfl)
  have F10 : ∀ z, lsF S10 dp ll z ↔ lsF S dp ll z := fun z => (lsF_eq v10.1 l6 nll).trans (F6 _ _)
  have t1 : ∀ z, z ∈ cL S6 → ρ1 z = ρ z := fun z hz => by rw [hρ1]; exact rtg_o hz
  have t2 : ∀ z, z ∈ cL S10 → ρ2 z = ρ1 z := fun z hz => by rw [hρ2]; exact rtg_o hz
  have inS : ∀ {z}, z ∈ cL S → z ∈ cL S6 := fun hz => (s6 _ hz).1.1
  have in6 : ∀ {z}, z ∈ cL S6 → z ∈ cL S10 := fun hz => (v10.1 _ hz).1.1
  have f14 : fr S10 S14 ρ1 ρ2 [13] := ⟨sub_wk v14.1 (fun z _ hz => by
    have hz' := (F10 z).mp hz
    rw [t1 z (inS (lsF_in l2 hz')), l3 z hz']; decide), fun z hz _ => t2 z hz⟩
  have fAll : fr S S14 ρ ρ2 [13] := fr_mix f6 (fr_mix f10 f14)
  have q14 := fr_A f14 q10
  have nq2 : ¬ lsF S10 dp ll q := fun hz => ls_nk l10 hz q10 (by decide) (by decide) rfl
  have r14 : ∀ x, cr S14 x q = cr S x q := fun x => (sub_cr v14.1 q10 nq2).trans ((r10 x).trans (r6 x q))
  have i14 : ∀ x, ci S14 x q = ci S6 x q := fun x => (sub_ci v14.1 q10 nq2).trans (i10 x)
  have c14 : ci S14 195 q = nI (pn + 1) := (i14 _).trans (hi_Si_s e6)
  have tS : ∀ z, z ∈ cL S → ρ2 z = ρ z := fun z hz => (t2 z (in6 (inS hz))).trans (t1 z (inS hz))
  have nl14 : lsT S14 dp nl 4 (ws ++ [p]) (gwL wm ws.length) := lsT_sub v14.1 t10 (fun z hz hz2 => by
    have h1 := (F10 z).mp hz2
    rcases v10.2 z hz with w | w
    · exact hd z ((F6 _ _).mp w) h1
    · exact w (inS (lsF_in l2 h1)))
  have nnl : ¬ lsF S10 dp ll nl := fun hz => hd nl (Or.inl rfl) ((F10 _).mp hz)
  have Fnl : ∀ z, lsF S14 dp nl z ↔ lsF S10 dp nl z := fun z => lsF_eq v14.1 t10 nnl
  have h18 : ∀ z, z ∈ cL S → ρ z = 18 → ρ2 z = 18 := fun z hz e => (tS z hz).trans e
  have lastG : ∀ {k y : Nat}, (ws ++ [p])[k]? = some y → (k < m ∧ ws[k]? = some y) ∨ (k = m ∧ y = p) := fun {k y} hk => by
    rcases app1_get.mp hk with h | ⟨h, e⟩
    · exact Or.inl ⟨by have := get_lt h; omega, h⟩
    · exact Or.inr ⟨by omega, e⟩
  unfold k_X6_putLeaf_56
  rw [c14]
  refine ⟨q14, ⟨by omega, by omega⟩, h S14 ρ2 fAll tS ⟨q14, (tS q g1.1).trans g2, c14, ⟨nl, ws ++ [p], _, ll, ls ++ [p], _, ⟨(r14 _).trans ((rr0 _).trans N1), nl14, fun z hz => ?_, z3, z4, by rw [List.length_append, N6]; rfl, fun j k y hj hk => ?_, fun k y hk => ?_⟩, ⟨(r14 _).trans ((rr0 _).trans L1), t14, fun z hz => ?_, y3, y4, ?_⟩, fun z hz hz2 => ?_⟩, ⟨a, (r14 _).trans a1, fr_A fAll a2, (sub_cn fAll.1 a2).trans a3, (tS a a2.1).trans a4, fun j hj => ?_⟩, ⟨b, (r14 _).trans ((rr0 _).trans B1), fr_A fAll (fr_A f B2), (sub_cn fAll.1 (fr_A f B2)).trans ((sub_cn f.1 B2).trans B3), (tS b (fr_A f B2).1).trans (h18f b B2.1 B4)⟩⟩⟩
  · rw [Fnl] at hz
    rcases v10.2 z hz with w | w
    · have w' := (F6 _ _).mp w
      exact (tS z (lsF_in n2 w')).trans (n3 z w')
    · have : z ∈ cL S10 := lsF_in t10 hz
      rw [t2 z this, hρ1]; exact rtg_n w
  · rcases lastG hj with ⟨h1, h2⟩ | ⟨h1, h2⟩
    · rcases lastG hk with ⟨k1, k2⟩ | ⟨k1, k2⟩
      · exact N7 j k y h2 k2
      · exact absurd (k2 ▸ List.mem_of_getElem? h2) hpw
    · rcases lastG hk with ⟨k1, k2⟩ | ⟨k1, k2⟩
      · exact absurd (h2 ▸ List.mem_of_getElem? k2) hpw
      · omega
  · rcases lastG hk with ⟨h1, h2⟩ | ⟨h1, h2⟩
    · rw [upR_n (show k ≠ m by omega), upR_n (show k ≠ m by omega)]
      exact ndT_fr fAll (by decide) h18 (n8 k y h2)
    · rw [h1, h2, upR_s, upR_s]
      exact ndT_fr fAll (by decide) h18 hn
  · rcases v14.2 z hz with w | w
    · have w' := (F10 z).mp w
      exact (tS z (lsF_in l2 w')).trans (l3 z w')
    · rw [hρ2]; exact rtg_n w
  · rw [lfI, upR_s, if_pos hlf, lfI_ext (nd' := nd) (fun j hj => upR_n (show j ≠ m by omega))]
    refine parL_snoc (parL_imp (fun p' k hk => app1_get.mpr (Or.inl hk)) L6) (app1_get.mpr (Or.inr ⟨N6.symm, rfl⟩))
  · rw [Fnl] at hz
    rcases v14.2 z hz2 with w | w
    · have w' := (F10 z).mp w
      rcases v10.2 z hz with u | u
      · exact hd z ((F6 _ _).mp u) w'
      · exact u (inS (lsF_in l2 w'))
    · exact w (lsF_in t10 hz)
  · have aI : cI S14 a = cI S5 a := by
      have a5A := sub_A1 s5 a2
      have a6A := sub_A1 u6 a5A
      have a10A := fr_A f10 a6A
      rw [sub_cI v14.1 a10A (fun hz => ls_nk l10 hz a10A (by decide) (by decide) rfl), sub_cI v10.1 a6A (fun hz => ls_nk n6 hz a6A (by decide) (by decide) rfl), sub_cI u6 a5A (cA_ne a5A q5 (by decide))]
    rw [aI, e5]
    show mU (cI S) a pn (nI m) a j = nI (upR st pn m j)
    rw [mU_s]
    show (if j = pn then nI m else cI S a j) = _
    by_cases c : j = pn
    · rw [if_pos c, c, upR_s]
    · rw [if_neg c, upR_n c]; exact a5 j (by omega)
end QU
