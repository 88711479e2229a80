/-! the relation: the class's machine and the law's -/
/-- the law's words: the, cat, red -/
def A6 : Nat → Int64 := upR (fun _ => 0) 0 (lN (wdc [116, 104, 101] 0))
def F6 : Nat → Int64 := upR (fun _ => 0) 0 (tcN 0)
def G6 : Nat → Int64 := upR (fun _ => 0) 0 (tcN 2)
def l6 : LGt := lgT 1 A6 1 F6 G6
def WL6 : List Int64 := [tcN 0, tcN 1, tcN 2, tcN 3, tcN 4]
/-- the nine queries -/
def nd0 : Nat → Nd := fun _ => ((0, 0, 0, 0), false, [], [], 0)
def qs6 : List (Nat × (Nat → Nd)) := [
  (1, upR nd0 0 ((0, 0, 0, 0), false, [(tcN 0, 0)], [], 0)),
  (1, upR nd0 0 ((0, 1, 0, 0), false, [(tcN 2, 0)], [], 0)),
  (1, upR nd0 0 ((1, 0, 1, 0), false, [(tcN 0, 0), (tcN 2, 2)], [], 0)),
  (1, upR nd0 0 ((2, 0, 2, 0), false, [(tcN 0, 0), (tcN 3, 1)], [], 0)),
  (1, upR nd0 0 ((3, 0, 0, 0), false, [], [], wdc [114, 117] 0)),
  (1, upR nd0 0 ((4, 1, 0, 0), false, [], [37, pfN 111, 38, pfN 115], 0)),
  (1, upR nd0 0 ((5, 0, 1, 0), false, [], [], wdc [99, 111, 116] 0)),
  (4, upR (upR (upR (upR nd0 0 ((0, 0, 0, 0), false, [(tcN 0, 0)], [], 0)) 1 ((0, 1, 0, 0), false, [(tcN 2, 0)], [], 0)) 2 ((0, 0, 0, 0), false, [(tcN 3, 0)], [], 0)) 3 ((6, 0, 1, 3), false, [], [], 0)),
  (5, upR (upR (upR (upR (upR nd0 0 ((0, 0, 0, 0), false, [(tcN 0, 0)], [], 0)) 1 ((0, 0, 0, 0), false, [(tcN 4, 0)], [], 0)) 2 ((6, 0, 2, 2), false, [], [], 0)) 3 ((0, 1, 0, 0), false, [(tcN 2, 0)], [], 0)) 4 ((7, 0, 1, 2), false, [], [], 0))]
/-- the language of the class -/
def cL6 (ad : Bool) (S : cS) (ρ : Nat → Nat) (x : Nat) : Prop := ∃ (P : Nat → Nat) (c0 c1 : Int32) (n0 : Nat) (P0 : Nat → Nat) (n1 : Nat) (P1 : Nat → Nat), gLD S ρ x 0 P 1 A6 1 F6 G6 ad c0 c1 n0 P0 n1 P1
/-- the rest of the class -/
def C6 (S : cS) (ρ : Nat → Nat) (dp x made : Nat) (sl : Nat → List Nat) (BL : List Nat) (ix : Vw) (mg : Option (Vw × Nat)) (cm pr : Option Vw) (sn : List (Nat × Vw)) (op fi w : Nat) (cc : Option Nat) (off : Bool) (H : List (Nat × Nat)) (sk tk : Nat) (CL : List (Nat × Nat × Nat)) (u : Nat) : Prop := (∃ so sd, gIx S ρ dp x so sd (sgR sl) made (BL.map dcR) ix mg cm pr sn op fi w cc off) ∧ ixM made ix mg cm pr sn ∧ (∃ nd, gPr S ρ dp x 0 nd) ∧ gQl S ρ dp x qs6 ∧ gRd S ρ x 3 1 ∧ gFn S ρ x H sk tk CL u (mbQ qs6 (sgR sl)) (sgR sl)
/-- a record -/
def rcK (a : Nat) : Prop := a < 2 ^ 51 ∧ a % 16 < 10 ∧ dgt a 11 < 3 ∧ ∀ p, p < 10 → dgt a (1 + p) < 8
def lBf6 (S : cS) (b m : Nat) (BL : List Nat) : Prop := cI S m 1 = nI BL.length ∧ BL.length ≤ 10 ∧ ∀ i a, BL[i]? = some a → cJ S b i = lN a ∧ a < 2 ^ 51
def lIx6 (S : cS) (x v m made : Nat) (sl : Nat → List Nat) (ix : Vw) : Prop := (cI S m 3 = nI ix.1.length ∧ ix.1.length ≤ 27) ∧ (∀ k n, ix.1[k]? = some n → cI S x k = nI n ∧ n < made) ∧ ∀ n, n ∈ ix.1 → cI S v n = nI (bN (ix.2 n) (sl n).length)
def lMg6 (S : cS) (y m : Nat) (sl : Nat → List Nat) (ids : List Nat) (mg : Option (Vw × Nat)) : Prop := cI S m 9 = bI mg.isSome ∧ ∀ s k, mg = some (s, k) → (∃ p, cI S m 10 = nI p ∧ p + 3 ≤ ids.length ∧ s.1 = (ids.drop p).take 3) ∧ cI S m 11 = nI k ∧ cI S m 12 = nI (mtL (sgR sl) s.2 s.1).length ∧ (mtL (sgR sl) s.2 s.1).length ≤ 10 ∧ k ≤ (mtL (sgR sl) s.2 s.1).length ∧ ∀ i z, (mtL (sgR sl) s.2 s.1)[i]? = some z → cI S y i = nI (16 * z.1 + z.2)
def lWr6 (S : cS) (w k : Nat) (sl : Nat → List Nat) (ids : List Nat) (cm pr : Option Vw) : Prop := (∀ n, n ∈ ids → cI S w n = nI (bN (wrF cm pr n) (sl n).length)) ∧ ∀ p, pr = some p → (∀ n, n ∈ p.1 → cI S k n = nI (bN (wbs cm n) (sl n).length)) ∧ ∀ n, n ∈ ids → n ∉ p.1 → n ∉ ovL cm
def lNm6 (S : cS) (m w fi op : Nat) (cc : Option Nat) (off : Bool) : Prop := cI S m 4 = nI w ∧ (off = false → cI S m 5 = cIn cc) ∧ cI S m 6 = bI off ∧ cI S m 7 = nI fi ∧ cI S m 8 = nI op
def lFi6 (S : cS) (h f m : Nat) (H : List (Nat × Nat)) (sk tk : Nat) (R : List (Nat × Nat)) : Prop := lHt S f m H ∧ cI S m 15 = nI sk ∧ cI S m 16 = nI tk ∧ lCa S h m R
def lSz6 (S : cS) (m dn made : Nat) (sl : Nat → List Nat) (BL : List Nat) : Prop := (cI S m 0 = nI dn ∧ dn + BL.length ≤ 60) ∧ (cI S m 2 = nI made ∧ made ≤ 27) ∧ (∀ n, n < made → ∀ a, a ∈ sl n → rcK a) ∧ ∀ a, a ∈ BL → rcK a
/-- the law's machine -/
def I6 (S : cS) (ar : Nat → Nat) (dn made : Nat) (sl : Nat → List Nat) (BL : List Nat) (ix : Vw) (mg : Option (Vw × Nat)) (cm pr : Option Vw) (o1 o2 : Option (Nat × Vw)) (op fi w : Nat) (cc : Option Nat) (off : Bool) (H : List (Nat × Nat)) (sk tk : Nat) (R : List (Nat × Nat)) : Prop := lRow S ar ∧ lSeg S (ar 0) (ar 2) (ar 3) dn made sl ∧ lSz6 S (ar 15) dn made sl BL ∧ lBf6 S (ar 1) (ar 15) BL ∧ lIx6 S (ar 6) (ar 4) (ar 15) made sl ix ∧ lMg6 S (ar 13) (ar 15) sl ix.1 mg ∧ (lOf S (ar 7) made sl (ofO cm) (cmV cm) ∧ lOf S (ar 8) made sl (ofO pr) (cmV pr) ∧ lOf S (ar 9) made sl (ofS o1) (vwS o1) ∧ lOf S (ar 10) made sl (ofS o2) (vwS o2)) ∧ lWr6 S (ar 5) (ar 14) sl ix.1 cm pr ∧ lNm6 S (ar 15) w fi op cc off ∧ lFi6 S (ar 11) (ar 12) (ar 15) H sk tk R
def tg6 (ρ : Nat → Nat) (ar : Nat → Nat) : Prop := ∀ i, i < 16 → ρ (ar i) = 90
/-- both -/
def R6 (k : Nat) (S : cS) (dp x : Nat) (ar : Nat → Nat) (cd dd : Nat) : Prop := ∃ (ρ : Nat → Nat) (ad : Bool) (dn made : Nat) (sl : Nat → List Nat) (BL : List Nat) (ix : Vw) (mg : Option (Vw × Nat)) (cm pr : Option Vw) (sn : List (Nat × Vw)) (o1 o2 : Option (Nat × Vw)) (op fi w : Nat) (cc : Option Nat) (off : Bool) (H : List (Nat × Nat)) (sk tk : Nat) (CL : List (Nat × Nat × Nat)) (u : Nat) (R : List (Nat × Nat)), cL6 ad S ρ x ∧ C6 S ρ dp x made sl BL ix mg cm pr sn op fi w cc off H sk tk CL u ∧ I6 S ar dn made sl BL ix mg cm pr o1 o2 op fi w cc off H sk tk R ∧ tg6 ρ ar ∧ pI k WL6 l6 ad (sgR sl) made (BL.map dcR) ix mg cm pr sn (slO o1 o2) op cc off ∧ pF k made qs6 3 1 CL u R ∧ cd + 610 * (BL.length + mgC mg) ≤ 10000 + 1600 * k ∧ dd + 7000 * (BL.length + mgC mg) ≤ 100000 + 16000 * k
section LK6
variable {S T U : cS} {ρ ρ' : Nat → Nat} {M : List Nat} {dp x made dn : Nat} {ar : Nat → Nat} {sl : Nat → List Nat} {BL : List Nat} {ix : Vw} {mg : Option (Vw × Nat)} {cm pr : Option Vw} {sn : List (Nat × Vw)} {o1 o2 : Option (Nat × Vw)} {op fi w : Nat} {cc : Option Nat} {off ad : Bool} {H : List (Nat × Nat)} {sk tk : Nat} {CL : List (Nat × Nat × Nat)} {u : Nat} {R : List (Nat × Nat)}
theorem C6_x (g : C6 S ρ dp x made sl BL ix mg cm pr sn op fi w cc off H sk tk CL u) : cA S x 11 ∧ ρ x = 1 := by
  obtain ⟨⟨so, sd, a1⟩, -⟩ := g
  exact ⟨a1.1.1, a1.1.2.1⟩
theorem C6_fr (h : fr S T ρ ρ' M) (hM : dj lRm M) (g : C6 S ρ dp x made sl BL ix mg cm pr sn op fi w cc off H sk tk CL u) : C6 T ρ' dp x made sl BL ix mg cm pr sn op fi w cc off H sk tk CL u := by
  obtain ⟨hx, hρ⟩ := C6_x g
  obtain ⟨⟨so, sd, a1⟩, a2, ⟨nd, a3⟩, a4, a5, a6⟩ := g
  have xr : ∀ q, cr T q x = cr S q x := fun q => fr_cr h hx (by rw [hρ]; exact dj_n hM (by decide))
  have xi : ∀ q, ci T q x = ci S q x := fun q => fr_ci h hx (by rw [hρ]; exact dj_n hM (by decide))
  have xt : ρ' x = 1 := (h.2 x hx.1 (by rw [hρ]; exact dj_n hM (by decide))).trans hρ
  exact ⟨⟨so, sd, gIx_fk (fr_fk h (dj_n hM (by decide))) (dj_sub hM (by decide)) a2 xt (fun q _ => xr q) (fun q _ => xi q) a1⟩, a2, ⟨nd, gPr_f h (dj_n hM (by decide)) (dj_n hM (by decide)) (dj_n hM (by decide)) (xr _) a3⟩, gQl_f h (dj_n hM (by decide)) (dj_n hM (by decide)) (dj_n hM (by decide)) (xr _) a4, gRd_f h (dj_sub hM (by decide)) (xr _) a5, gFn_f h (dj_sub hM (by decide)) (xr _) (xr _) a6⟩
theorem cL6_fr (h : fr S T ρ ρ' M) (hM : dj [1, 2, 3, 4, 5, 6] M) (hx : cA S x 11) (hρ : ρ x = 1) (g : cL6 ad S ρ x) : cL6 ad T ρ' x := by
  obtain ⟨P, c0, c1, n0, P0, n1, P1, g⟩ := g
  have xt : ρ' x = 1 := (h.2 x hx.1 (by rw [hρ]; exact dj_n hM (by decide))).trans hρ
  exact ⟨P, c0, c1, n0, P0, n1, P1, gLD_f h (dj_sub hM (by decide)) xt (fun q _ => fr_cr h hx (by rw [hρ]; exact dj_n hM (by decide))) g⟩
/-- the law's own writes -/
theorem fr_lw {A : List Nat} (w : lwT S T A) (h : ∀ a, a ∈ A → ρ a = 90) : fr S T ρ ρ [90] := by
  obtain ⟨⟨h1, h2, h3, h4, h5, h6, h7⟩, h8⟩ := w
  refine ⟨fun a ha => ⟨⟨by rw [h1]; exact ha, by rw [h2], by rw [h6]⟩, fun hF => ?_⟩, fun _ _ _ => rfl⟩
  have hn : a ∉ A := fun c => hF (by show ρ a ∈ [90]; rw [h a c]; simp)
  exact ⟨fun q => ⟨by rw [h3], by rw [h4], by rw [h5]⟩, (h8 a hn).1, (h8 a hn).2, by rw [h7]⟩
theorem fr_sub {F : Nat → Prop} (s : cSub S T F) (h : ∀ a, F a → ρ a = 90) : fr S T ρ ρ [90] := ⟨fun a ha => ⟨(s a ha).1, fun hF => (s a ha).2 (fun c => hF (by show ρ a ∈ [90]; rw [h a c]; simp))⟩, fun _ _ _ => rfl⟩
theorem tg_map (t : tg6 ρ ar) {L : List Nat} (h : L.all (fun i => decide (i < 16)) = true) : ∀ a, a ∈ L.map ar → ρ a = 90 := fun a ha => by
  obtain ⟨i, hi, e⟩ := List.mem_map.mp ha
  rw [← e]
  exact t i (of_decide_eq_true (List.all_eq_true.mp h i hi))
/-- the law's rows under a call of the class -/
theorem I6_rows (g : lRow S ar) (t : tg6 ρ ar) (h : fr S T ρ ρ' M) (hM : 90 ∉ M) : lRow T ar ∧ tg6 ρ' ar ∧ (∀ i, i < 16 → cI T (ar i) = cI S (ar i)) ∧ ∀ i, i < 16 → cJ T (ar i) = cJ S (ar i) := by
  have hn : ∀ i, i < 16 → ρ (ar i) ∉ M := fun i hi => by rw [t i hi]; exact hM
  refine ⟨⟨fun i hi => ⟨sub_A1 h.1 (g.1 i hi).1, (sub_cn h.1 (g.1 i hi).1).trans (g.1 i hi).2⟩, g.2⟩, fun i hi => (h.2 _ (g.1 i hi).1.1 (hn i hi)).trans (t i hi), fun i hi => sub_cI h.1 (g.1 i hi).1 (hn i hi), fun i hi => sub_cJ h.1 (g.1 i hi).1 (hn i hi)⟩
theorem lSeg_eq {r s z : Nat} (h1 : cA T r 15 ∧ cn T r = 64) (h2 : cA T s 15 ∧ cn T s = 30) (h3 : cA T z 14 ∧ cn T z = 30) (er : cJ T r = cJ S r) (es : cJ T s = cJ S s) (ez : cI T z = cI S z) (g : lSeg S r s z dn made sl) : lSeg T r s z dn made sl := by
  refine ⟨⟨h1, h2, h3⟩, g.2.1, ?_⟩
  rw [er, es, ez]
  exact g.2.2
theorem lOf_eq {c fl : Nat} {v : Vw} (h : cA T c 14 ∧ cn T c = 64) (e : cI T c = cI S c) (g : lOf S c made sl fl v) : lOf T c made sl fl v := by
  refine ⟨h, by rw [e]; exact g.2.1, fun hf => ?_⟩
  have gv := g.2.2 hf
  refine ⟨h, ?_⟩
  rw [e]
  exact gv.2
theorem I6_eq (hR : lRow T ar) (eI : ∀ i, i < 16 → cI T (ar i) = cI S (ar i)) (eJ : ∀ i, i < 16 → cJ T (ar i) = cJ S (ar i)) (g : I6 S ar dn made sl BL ix mg cm pr o1 o2 op fi w cc off H sk tk R) : I6 T ar dn made sl BL ix mg cm pr o1 o2 op fi w cc off H sk tk R := by
  obtain ⟨g1, g2, g3, g4, g5, g6, ⟨g7, g8, g9, g10⟩, g11, g12, g13⟩ := g
  refine ⟨hR, lSeg_eq (hR.1 0 (by decide)) (hR.1 2 (by decide)) (hR.1 3 (by decide)) (eJ 0 (by decide)) (eJ 2 (by decide)) (eI 3 (by decide)) g2, ?_, ?_, ?_, ?_, ⟨lOf_eq (hR.1 7 (by decide)) (eI 7 (by decide)) g7, lOf_eq (hR.1 8 (by decide)) (eI 8 (by decide)) g8, lOf_eq (hR.1 9 (by decide)) (eI 9 (by decide)) g9, lOf_eq (hR.1 10 (by decide)) (eI 10 (by decide)) g10⟩, ?_, ?_, ?_⟩
  · unfold lSz6; rw [eI 15 (by decide)]; exact g3
  · unfold lBf6; rw [eI 15 (by decide), eJ 1 (by decide)]; exact g4
  · unfold lIx6; rw [eI 15 (by decide), eI 6 (by decide), eI 4 (by decide)]; exact g5
  · unfold lMg6; rw [eI 15 (by decide), eI 13 (by decide)]; exact g6
  · unfold lWr6; rw [eI 5 (by decide), eI 14 (by decide)]; exact g11
  · unfold lNm6; rw [eI 15 (by decide)]; exact g12
  · unfold lFi6 lHt lCa; rw [eI 15 (by decide), eI 12 (by decide), eI 11 (by decide)]; exact g13
end LK6
