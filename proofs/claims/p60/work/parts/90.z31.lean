/-! both worlds together: the index, queries, finding -/
def wbs (cm : Option Vw) (n j : Nat) : Bool := if n ∈ ovL cm then (cmV cm).2 n j else true
/-- what was written last of a segment -/
def wrF (cm pr : Option Vw) (n j : Nat) : Bool := match pr with
  | some p => if n ∈ p.1 then p.2 n j else wbs cm n j
  | none => wbs cm n j
def rWr (f : Nat → Nat → Int32) (sg : Nat → List Dc) (ix : Vw) (cm pr : Option Vw) : Prop := (∀ n, n ∈ ix.1 → ∀ j, j < (sg n).length → f 22 (100 * n + j) = bI (wrF cm pr n j)) ∧ ∀ p, pr = some p → (∀ n, n ∈ p.1 → ∀ j, j < (sg n).length → f 23 (100 * n + j) = bI (wbs cm n j)) ∧ ∀ n, n ∈ ix.1 → n ∉ p.1 → n ∉ ovL cm
/-- the index in rows -/
def rI (v : Nat → Int32) (f : Nat → Nat → Int32) (g : Nat → Nat → Int64) (l : LGt) (made dn : Nat) (sg : Nat → List Dc) (hd : Nat → Nat → Nat) (B : List Dc) (ix : Vw) (mg : Option (Vw × Nat)) (cm pr : Option Vw) (sl : Nat → Option (Nat × Vw)) (op fi w : Nat) (cc : Option Nat) (off : Bool) : Prop := (v 98 = bI off ∧ (off = false → v 97 = cIn cc) ∧ v 96 = nI w ∧ v 39 = nI fi ∧ v 48 = nI op) ∧ rBf l v f g B ∧ rSg l v f g made dn sg hd ∧ rIx v f made sg ix.1 ix.2 ∧ rMg v f sg mg ∧ rOv v f 35 37 25 26 made sg cm ∧ rOv v f 40 42 27 28 made sg pr ∧ rLk f made sg sl ∧ (zRw f 21 20200 ∧ zRw f 22 20200 ∧ zRw f 23 20200 ∧ zRw f 26 20200 ∧ zRw f 28 20200) ∧ rWr f sg ix cm pr
/-- queries in rows -/
def rQ (v : Nat → Int32) (f : Nat → Nat → Int32) (g : Nat → Nat → Int64) (m : Nat) (nd : Nat → Nd) (qs : List (Nat × (Nat → Nd))) : Prop := rPr v f g m nd ∧ rQl v f g qs ∧ zRw f 43 1968
/-- what was found, in rows -/
def rFi (v : Nat → Int32) (f : Nat → Nat → Int32) (w0 w1 : Nat) (H : List (Nat × Nat)) (sk tk : Nat) (R : List (Nat × Nat)) : Prop := (f 49 0 = nI w0 ∧ f 49 1 = nI w1) ∧ rHt v f H ∧ v 89 = nI sk ∧ v 90 = nI tk ∧ rCa v f R
def vG (sg : Nat → List Dc) (s : Vw) : Prop := s.1.Nodup ∧ ∀ key, oneK sg s.1 s.2 key
/-- a document's tokens were met -/
def tIn (WL : List Int64) (l : LGt) (d : Dc) : Prop := ∀ (fl : Nat) (x : Int64 × Nat), x ∈ dT d fl → x.1 ∈ WL ∨ ∃ i, i < l.2.2.1 ∧ x.1 = l.2.1 i
/-- what is kept of the index -/
def pI (k : Nat) (WL : List Int64) (l : LGt) (ad : Bool) (sg : Nat → List Dc) (made : Nat) (B : List Dc) (ix : Vw) (mg : Option (Vw × Nat)) (cm pr : Option Vw) (sn : List (Nat × Vw)) (sl : Nat → Option (Nat × Vw)) (op : Nat) (cc : Option Nat) (off : Bool) : Prop := (vG sg ix ∧ (∀ s c, mg = some (s, c) → vG sg s) ∧ (∀ s, cm = some s → vG sg s) ∧ (∀ s, pr = some s → vG sg s) ∧ ∀ s, s ∈ sn → vG sg s.2) ∧ ((∀ (i i' : Nat) (d d' : Dc), B[i]? = some d → B[i']? = some d' → dK d = dK d' → i = i') ∧ ∀ d, d ∈ B → ∀ (n j : Nat) (d' : Dc), n ∈ ix.1 → (sg n)[j]? = some d' → ix.2 n j = true → dK d' ≠ dK d) ∧ (∀ s c, mg = some (s, c) → ∃ p, p + 3 ≤ ix.1.length ∧ s.1.length = 3 ∧ (∀ (a n : Nat), s.1[a]? = some n → ix.1[p + a]? = some n) ∧ c ≤ (mtL sg s.2 s.1).length ∧ made ≤ 200) ∧ (sn.Perm ((List.range 5).filterMap sl) ∧ (sn.map (fun s => s.1)).Nodup ∧ (∀ s, s ∈ sn → s.1 < op) ∧ op ≤ k) ∧ (off = true → ix.1 = [] ∧ B = [] ∧ mg = none ∧ pr = none ∧ sn = []) ∧ (∀ j, cc = some j → j ≤ 1000) ∧ (ad = false → B = [] ∧ made = 0) ∧ ((∀ n, n < made → ∀ d, d ∈ sg n → tIn WL l d) ∧ ∀ d, d ∈ B → tIn WL l d) ∧ scW l ∧ made ≤ 201 ∧ smN (fun n => (sg n).length) made + B.length + mgC mg ≤ k
/-- what is kept of queries -/
def pQ (m : Nat) (nd : Nat → Nd) (qs : List (Nat × (Nat → Nd))) : Prop := qOk nd m ∧ (∀ j, j < m → ndG (nd j)) ∧ (qsS nd m).1 + m ≤ 2 * (lfI nd m).length ∧ (lfI nd m).length ≤ 24 ∧ qrG qs
/-- the cache by times, and by recency -/
def cRL (CL : List (Nat × Nat × Nat)) (u : Nat) (R : List (Nat × Nat)) : Prop := ∃ P : List (Nat × Nat × Nat), P.Perm CL ∧ P.map (fun x => (x.1, x.2.1)) = R ∧ P.Pairwise (fun a b => a.2.2 < b.2.2) ∧ (∀ x, x ∈ CL → x.2.2 ≤ u) ∧ R.Nodup ∧ CL.length ≤ 8
/-- what is kept of finding -/
def pF (k made : Nat) (qs : List (Nat × (Nat → Nd))) (w0 w1 : Nat) (CL : List (Nat × Nat × Nat)) (u : Nat) (R : List (Nat × Nat)) : Prop := (w0 ≤ 9 ∧ w1 ≤ 9) ∧ cRL CL u R ∧ (∀ x, x ∈ CL → x.1 < qs.length ∧ x.2.1 < made) ∧ u ≤ 201 * k
/-- all but the language, the pad and the draft -/
def Rest (l : LGt) (ad : Bool) (k : Nat) (WL : List Int64) (S : cS) (ρ : Nat → Nat) (dp x out : Nat) (v : Nat → Int32) (f : Nat → Nat → Int32) (g : Nat → Nat → Int64) (cd dd : Nat) : Prop := (cA S out 15 ∧ cn S out = 1 ∧ ρ out = 90) ∧ ∃ (so : Nat → Nat) (sd : Nat → List Nat) (sg : Nat → List Dc) (made : Nat) (B : List Dc) (ix : Vw) (mg : Option (Vw × Nat)) (cm pr : Option Vw) (sn : List (Nat × Vw)) (op fi w : Nat) (cc : Option Nat) (off : Bool) (dn : Nat) (hd : Nat → Nat → Nat) (sl : Nat → Option (Nat × Vw)) (m : Nat) (nd : Nat → Nd) (qs : List (Nat × (Nat → Nd))) (w0 w1 : Nat) (H : List (Nat × Nat)) (sk tk : Nat) (CL : List (Nat × Nat × Nat)) (u : Nat) (R : List (Nat × Nat)), (gIx S ρ dp x so sd sg made B ix mg cm pr sn op fi w cc off ∧ ixM made ix mg cm pr sn) ∧ (gPr S ρ dp x m nd ∧ gQl S ρ dp x qs) ∧ (gRd S ρ x w0 w1 ∧ gFn S ρ x H sk tk CL u (mbQ qs sg) sg) ∧ rI v f g l made dn sg hd B ix mg cm pr sl op fi w cc off ∧ rQ v f g m nd qs ∧ rFi v f w0 w1 H sk tk R ∧ pI k WL l ad sg made B ix mg cm pr sn sl op cc off ∧ pQ m nd qs ∧ pF k made qs w0 w1 CL u R ∧ cd + 610 * (B.length + mgC mg) ≤ 174 + 1170 * k ∧ dd + 7000 * (B.length + mgC mg) ≤ 409927 + 13440 * k
section RELB
variable {S T : cS} {ρ ρ' : Nat → Nat} {M Am Fm Gm : List Nat} {v v' : Nat → Int32} {f f' : Nat → Nat → Int32} {g g' : Nat → Nat → Int64} {dp x out : Nat} {l : LGt}
def lIv : List Nat := [20, 26, 29, 34, 35, 37, 39, 40, 42, 48, 49, 52, 53, 96, 97, 98]
def lIf : List Nat := [9, 10, 11, 13, 14, 15, 16, 18, 19, 20, 21, 22, 23, 24, 25, 26, 27, 28, 29, 30, 31, 32, 33, 34]
theorem rI_fr {made dn : Nat} {sg : Nat → List Dc} {hd : Nat → Nat → Nat} {B : List Dc} {ix : Vw} {mg : Option (Vw × Nat)} {cm pr : Option Vw} {sl : Nat → Option (Nat × Vw)} {op fi w : Nat} {cc : Option Nat} {off : Bool} (h : rF Am Fm Gm v f g v' f' g') (h1 : dj lIv Am) (h2 : dj lIf Fm) (h3 : dj [12, 17] Gm) (hr : rI v f g l made dn sg hd B ix mg cm pr sl op fi w cc off) : rI v' f' g' l made dn sg hd B ix mg cm pr sl op fi w cc off := by
  have e1 : ∀ i, i ∈ lIv → v' i = v i := fun i hi => h.1 i (dj_n h1 hi)
  have e2 : ∀ i, i ∈ lIf → f' i = f i := fun i hi => h.2.1 i (dj_n h2 hi)
  have e3 : ∀ i, i ∈ [12, 17] → g' i = g i := fun i hi => h.2.2 i (dj_n h3 hi)
  unfold rI rBf rSg rIx rMg rOv rVw rLk zRw rWr at hr ⊢
  simp only [e1 20 (by decide), e1 26 (by decide), e1 29 (by decide), e1 34 (by decide), e1 35 (by decide), e1 37 (by decide), e1 39 (by decide), e1 40 (by decide), e1 42 (by decide), e1 48 (by decide), e1 49 (by decide), e1 52 (by decide), e1 53 (by decide), e1 96 (by decide), e1 97 (by decide), e1 98 (by decide), e2 9 (by decide), e2 10 (by decide), e2 11 (by decide), e2 13 (by decide), e2 14 (by decide), e2 15 (by decide), e2 16 (by decide), e2 18 (by decide), e2 19 (by decide), e2 20 (by decide), e2 21 (by decide), e2 22 (by decide), e2 23 (by decide), e2 24 (by decide), e2 25 (by decide), e2 26 (by decide), e2 27 (by decide), e2 28 (by decide), e2 29 (by decide), e2 30 (by decide), e2 31 (by decide), e2 32 (by decide), e2 33 (by decide), e2 34 (by decide), e3 12 (by decide), e3 17 (by decide)]
  exact hr
theorem rQ_fr {m : Nat} {nd : Nat → Nd} {qs : List (Nat × (Nat → Nd))} (h : rF Am Fm Gm v f g v' f' g') (h1 : dj [71, 72, 73] Am) (h2 : dj [40, 41, 42, 43, 44, 46, 47, 48] Fm) (h3 : dj [45] Gm) (hr : rQ v f g m nd qs) : rQ v' f' g' m nd qs := by
  have e1 : ∀ i, i ∈ [71, 72, 73] → v' i = v i := fun i hi => h.1 i (dj_n h1 hi)
  have e2 : ∀ i, i ∈ [40, 41, 42, 43, 44, 46, 47, 48] → f' i = f i := fun i hi => h.2.1 i (dj_n h2 hi)
  have e3 : ∀ i, i ∈ [45] → g' i = g i := fun i hi => h.2.2 i (dj_n h3 hi)
  unfold rQ rPr rQl rNd zRw at hr ⊢
  simp only [e1 71 (by decide), e1 72 (by decide), e1 73 (by decide), e2 40 (by decide), e2 41 (by decide), e2 42 (by decide), e2 43 (by decide), e2 44 (by decide), e2 46 (by decide), e2 47 (by decide), e2 48 (by decide), e3 45 (by decide)]
  exact hr
theorem rFi_fr {w0 w1 : Nat} {H : List (Nat × Nat)} {sk tk : Nat} {R : List (Nat × Nat)} (h : rF Am Fm Gm v f g v' f' g') (h1 : dj [85, 88, 89, 90] Am) (h2 : dj [49, 57, 58, 59, 60] Fm) (hr : rFi v f w0 w1 H sk tk R) : rFi v' f' w0 w1 H sk tk R := by
  have e1 : ∀ i, i ∈ [85, 88, 89, 90] → v' i = v i := fun i hi => h.1 i (dj_n h1 hi)
  have e2 : ∀ i, i ∈ [49, 57, 58, 59, 60] → f' i = f i := fun i hi => h.2.1 i (dj_n h2 hi)
  unfold rFi rHt rCa at hr ⊢
  simp only [e1 85 (by decide), e1 88 (by decide), e1 89 (by decide), e1 90 (by decide), e2 49 (by decide), e2 57 (by decide), e2 58 (by decide), e2 59 (by decide), e2 60 (by decide)]
  exact hr
theorem pI_k {k k' : Nat} {WL WL' : List Int64} {ad : Bool} {sg : Nat → List Dc} {made : Nat} {B : List Dc} {ix : Vw} {mg : Option (Vw × Nat)} {cm pr : Option Vw} {sn : List (Nat × Vw)} {sl : Nat → Option (Nat × Vw)} {op : Nat} {cc : Option Nat} {off : Bool} (hk : k ≤ k') (hW : ∀ c, c ∈ WL → c ∈ WL') (h : pI k WL l ad sg made B ix mg cm pr sn sl op cc off) : pI k' WL' l ad sg made B ix mg cm pr sn sl op cc off := by
  obtain ⟨a1, a2, a3, ⟨a4, a5, a6, a7⟩, a8, a9, b1, ⟨b2, b3⟩, b4, b5⟩ := h
  have up : ∀ d, tIn WL l d → tIn WL' l d := fun d hd fl x hx => (hd fl x hx).imp (hW _) (fun z => z)
  exact ⟨a1, a2, a3, ⟨a4, a5, a6, by omega⟩, a8, a9, b1, ⟨fun n hn d hd => up d (b2 n hn d hd), fun d hd => up d (b3 d hd)⟩, b4, b5.1, by have := b5.2; omega⟩
def lRv : List Nat := lIv ++ [71, 72, 73, 85, 88, 89, 90]
def lRf : List Nat := lIf ++ [40, 41, 42, 43, 44, 46, 47, 48, 49, 57, 58, 59, 60]
def lRm : List Nat := [1, 7, 8, 9, 10, 11, 12, 13, 14, 16, 17, 18, 19, 20, 21, 22, 23, 24, 25, 26, 27, 28, 29, 30, 31, 32, 33, 34, 35, 80]
theorem dj_app {a b A : List Nat} (h : dj (a ++ b) A) : dj a A ∧ dj b A := by
  unfold dj at h ⊢
  rw [List.all_append, Bool.and_eq_true] at h
  exact h
theorem dj_sub {a b A : List Nat} (h : dj b A) (hs : (a.all (fun i => b.contains i)) = true) : dj a A := by
  unfold dj at h ⊢
  refine List.all_eq_true.mpr (fun i hi => List.all_eq_true.mp h i ?_)
  exact List.contains_iff_mem.mp (List.all_eq_true.mp hs i hi)
/-- nothing of the rest has changed -/
theorem Rest_fr {ad : Bool} {k cd dd mc ms : Nat} {WL WL' : List Int64} (hc : fr S T ρ ρ' M) (hM : dj lRm M) (h : rF Am Fm Gm v f g v' f' g') (h1 : dj lRv Am) (h2 : dj lRf Fm) (h3 : dj [12, 17, 45] Gm) (hW : ∀ c, c ∈ WL → c ∈ WL') (ho : cA T out 15 ∧ cn T out = 1 ∧ ρ' out = 90) (hm : mc ≤ 1170) (hs : ms ≤ 13440) (hr : Rest l ad k WL S ρ dp x out v f g cd dd) : Rest l ad (k + 1) WL' T ρ' dp x out v' f' g' (cd + mc) (dd + ms) := by
  obtain ⟨o, so, sd, sg, made, B, ix, mg, cm, pr, sn, op, fi, w, cc, off, dn, hd, sl, m, nd, qs, w0, w1, H, sk, tk, CL, u, R, ⟨a1, a2⟩, ⟨a3, a4⟩, ⟨a5, a6⟩, a7, a8, a9, b1, b2, ⟨b3, b4, b5, b6⟩, b7, b8⟩ := hr
  have hx := a1.1
  have xr : ∀ q, cr T q x = cr S q x := fun q => fr_cr hc hx.1 (by rw [hx.2.1]; exact dj_n hM (by decide))
  have xi : ∀ q, ci T q x = ci S q x := fun q => fr_ci hc hx.1 (by rw [hx.2.1]; exact dj_n hM (by decide))
  have xt : ρ' x = 1 := (hc.2 x hx.1.1 (by rw [hx.2.1]; exact dj_n hM (by decide))).trans hx.2.1
  obtain ⟨h1a, h1b⟩ := dj_app h1
  obtain ⟨h2a, h2b⟩ := dj_app h2
  refine ⟨ho, so, sd, sg, made, B, ix, mg, cm, pr, sn, op, fi, w, cc, off, dn, hd, sl, m, nd, qs, w0, w1, H, sk, tk, CL, u, R, ⟨gIx_fk (fr_fk hc (dj_n hM (by decide))) (dj_sub hM (by decide)) a2 xt (fun q _ => xr q) (fun q _ => xi q) a1, a2⟩, ⟨gPr_f hc (dj_n hM (by decide)) (dj_n hM (by decide)) (dj_n hM (by decide)) (xr _) a3, gQl_f hc (dj_n hM (by decide)) (dj_n hM (by decide)) (dj_n hM (by decide)) (xr _) a4⟩, ⟨gRd_f hc (dj_sub hM (by decide)) (xr _) a5, gFn_f hc (dj_sub hM (by decide)) (xr _) (xr _) a6⟩, rI_fr h h1a h2a (dj_sub h3 (by decide)) a7, rQ_fr h (dj_sub h1b (by decide)) (dj_sub h2b (by decide)) (dj_sub h3 (by decide)) a8, rFi_fr h (dj_sub h1b (by decide)) (dj_sub h2b (by decide)) a9, pI_k (by omega) hW b1, b2, ⟨b3, b4, b5, by omega⟩, by omega, by omega⟩
/-- while nothing was added, the language may change -/
theorem Rest_lang {l' : LGt} {k cd dd : Nat} {WL : List Int64} (hS : scW l') (hr : Rest l false k WL S ρ dp x out v f g cd dd) : Rest l' false k WL S ρ dp x out v f g cd dd := by
  obtain ⟨o, so, sd, sg, made, B, ix, mg, cm, pr, sn, op, fi, w, cc, off, dn, hd, sl, m, nd, qs, w0, w1, H, sk, tk, CL, u, R, a1, a2, a3, ⟨c1, c2, c3, c4⟩, a8, a9, ⟨d1, d2, d3, d4, d5, d6, d7, d8, d9, d10⟩, b2, b3, b7, b8⟩ := hr
  obtain ⟨eB, em⟩ := d7 rfl
  refine ⟨o, so, sd, sg, made, B, ix, mg, cm, pr, sn, op, fi, w, cc, off, dn, hd, sl, m, nd, qs, w0, w1, H, sk, tk, CL, u, R, a1, a2, a3, ⟨c1, ?_, ?_, c4⟩, a8, a9, ⟨d1, d2, d3, d4, d5, d6, d7, ⟨fun n hn => absurd hn (by omega), fun d hd => ?_⟩, hS, d10⟩, b2, b3, b7, b8⟩
  · refine ⟨c2.1, c2.2.1, fun k d hk => ?_⟩
    rw [eB] at hk
    exact absurd (get_lt hk) (Nat.not_lt_zero k)
  · exact ⟨c3.1, c3.2.1, fun n hn => absurd hn (by omega)⟩
  · rw [eB] at hd; exact absurd hd List.not_mem_nil
end RELB
