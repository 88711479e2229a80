/-! both worlds together: parts and queries -/
section NDX
variable {nd : Nat → Nd} {m : Nat} {d : Nd} {qs : List (Nat × (Nat → Nd))}
theorem up_qs : qsS (upR nd m d) m = qsS nd m := qsS_ext (fun j hj => upR_n (by omega))
theorem up_lf : lfI (upR nd m d) m = lfI nd m := lfI_ext (fun j hj => upR_n (by omega))
theorem up_ok (h : qOk nd m) (h1 : nLf d = true → (qsS nd m).1 < 8 ∧ nF d < 2 ∧ (tkOk d ∨ tlOk d)) (h2 : nLf d = false → 6 ≤ nK d ∧ nK d ≤ 7 ∧ 1 ≤ nP d ∧ nP d ≤ (qsS nd m).1 ∧ nL d ≤ 8) : qOk (upR nd m d) (m + 1) := by
  intro k hk
  by_cases c : k = m
  · subst c
    rw [upR_s, up_qs]
    exact ⟨h1, h2⟩
  · rw [upR_n c, qsS_ext (nd := upR nd m d) (nd' := nd) (k := k) (fun j hj => upR_n (by omega))]
    exact h k (by omega)
theorem up_G (h : ∀ j, j < m → ndG (nd j)) (hd : ndG d) : ∀ j, j < m + 1 → ndG (upR nd m d j) := by
  intro j hj
  by_cases c : j = m
  · rw [c, upR_s]; exact hd
  · rw [upR_n c]; exact h j (by omega)
theorem pQ_m (h : pQ m nd qs) : (qsS nd m).1 ≤ 8 ∧ (qsS nd m).1 + m ≤ 48 ∧ ((lfI nd m).length < 24 → m ≤ 47) := ⟨qOk_le h.1 m (Nat.le_refl _), by have := h.2.2.1; have := h.2.2.2.1; omega, fun c => by have := h.2.2.1; omega⟩
/-- a leaf more -/
theorem pQ_lf (h : pQ m nd qs) (h8 : (qsS nd m).1 < 8) (h24 : (lfI nd m).length < 24) (hd : nLf d = true) (hf : nF d < 2) (ho : tkOk d ∨ tlOk d) (hG : ndG d) : pQ (m + 1) (upR nd m d) qs := by
  obtain ⟨q1, q2, q3, q4, q5⟩ := h
  have e1 : (qsS (upR nd m d) (m + 1)).1 = (qsS nd m).1 + 1 := by
    rw [qs_s (by rw [upR_s]; exact hd), up_qs]
  have e2 : (lfI (upR nd m d) (m + 1)).length = (lfI nd m).length + 1 := by
    rw [lfI, upR_s, if_pos hd, up_lf, List.length_append]; rfl
  refine ⟨up_ok q1 (fun _ => ⟨h8, hf, ho⟩) (fun e => by rw [hd] at e; exact absurd e (by decide)), up_G q2 hG, ?_, ?_, q5⟩
  · rw [e1, e2]; omega
  · rw [e2]; omega
/-- a joint more -/
theorem pQ_jn (h : pQ m nd qs) (hd : nLf d = false) (hk : 6 ≤ nK d ∧ nK d ≤ 7) (hp : 2 ≤ nP d ∧ nP d ≤ (qsS nd m).1) (hl : nL d ≤ 8) (hG : ndG d) : pQ (m + 1) (upR nd m d) qs := by
  obtain ⟨q1, q2, q3, q4, q5⟩ := h
  have e1 : (qsS (upR nd m d) (m + 1)).1 = (qsS nd m).1 - (nP d - 1) := by
    rw [qs_n (by rw [upR_s]; exact hd), up_qs, upR_s]
  have e2 : (lfI (upR nd m d) (m + 1)).length = (lfI nd m).length := by
    rw [lfI, upR_s, hd, if_neg Bool.false_ne_true, up_lf, List.append_nil]
  refine ⟨up_ok q1 (fun e => by rw [hd] at e; exact absurd e (by decide)) (fun _ => ⟨hk.1, hk.2, by omega, hp.2, hl⟩), up_G q2 hG, ?_, ?_, q5⟩
  · rw [e1, e2]; omega
  · rw [e2]; exact q4
theorem pQ_0 (h : pQ m nd qs) : pQ 0 nd qs := ⟨fun k hk => absurd hk (Nat.not_lt_zero k), fun k hk => absurd hk (Nat.not_lt_zero k), Nat.le_refl _, Nat.zero_le _, h.2.2.2.2⟩
end NDX
section CASQ
variable {S T U S8 : cS} {ρ ρ' : Nat → Nat} {M Am Fm Gm : List Nat} {v v' : Nat → Int32} {f f' : Nat → Nat → Int32} {g g' : Nat → Nat → Int64} {dp x out k cd dd L : Nat} {x4 : Int32} {xs : Nat → Int32} {R : Int32 → Nat → Nat → cS → (Nat → Int32) → (Nat → Nat → Int32) → (Nat → Nat → Int64) → Prop}
variable {n : Nat} {P : Nat → Nat} {ks : Nat} {A : Nat → Int64} {yn : Nat} {F G : Nat → Int64} {ad : Bool} {c0 c1 n0 : Nat} {P0 : Nat → Nat} {n1 : Nat} {P1 : Nat → Nat} {WL : List Int64} {mc ms : Nat}
variable {so : Nat → Nat} {sd : Nat → List Nat} {sg : Nat → List Dc} {made : Nat} {B : List Dc} {ix : Vw} {mg : Option (Vw × Nat)} {cm pr : Option Vw} {sn : List (Nat × Vw)} {op fi w : Nat} {cc : Option Nat} {off : Bool} {dn : Nat} {hd : Nat → Nat → Nat} {sl : Nat → Option (Nat × Vw)} {m : Nat} {nd : Nat → Nd} {qs : List (Nat × (Nat → Nd))} {w0 w1 : Nat} {H : List (Nat × Nat)} {sk tk : Nat} {CL : List (Nat × Nat × Nat)} {u : Nat} {RR : List (Nat × Nat)}
variable {n' : Nat} {P' : Nat → Nat} {m' : Nat} {nd' : Nat → Nd} {qs' : List (Nat × (Nat → Nd))}
/-- what a call on queries leaves -/
theorem Rel_Q (lT : Lp (k + 1) WL T ρ' x v' f' g' n' P' ks A yn F G ad c0 c1 n0 P0 n1 P1) (a1 : gIx S ρ dp x so sd sg made B ix mg cm pr sn op fi w cc off) (a2 : ixM made ix mg cm pr sn) (a5 : gRd S ρ x w0 w1) (a6 : gFn S ρ x H sk tk CL u (mbQ qs sg) sg) (a7 : rI v f g (lgT ks A yn F G) made dn sg hd B ix mg cm pr sl op fi w cc off) (a9 : rFi v f w0 w1 H sk tk RR) (b1 : pI k WL (lgT ks A yn F G) ad sg made B ix mg cm pr sn sl op cc off) (b3 : pF k made qs w0 w1 CL u RR) (b7 : cd + 610 * (B.length + mgC mg) ≤ 174 + 1170 * k) (b8 : dd + 7000 * (B.length + mgC mg) ≤ 409927 + 13440 * k) (fT : fr S T ρ ρ' M) (hM : dj [7, 8, 9, 10, 11, 14, 19, 20, 21, 22, 23, 24, 25, 26, 27, 28, 29, 30, 31, 32, 33, 34, 35, 80] M) (xr : ∀ z, z ≠ 362 → cr T z x = cr S z x) (xi : ∀ z, ci T z x = ci S z x) (xρ : ρ' x = 1) (gP : gPr T ρ' dp x m' nd') (gQ : gQl T ρ' dp x qs') (oT : cA T out 15 ∧ cn T out = 1 ∧ ρ' out = 90) (hq : ∀ i, i < qs.length → qs'[i]? = qs[i]?) (hF : rF Am Fm Gm v f g v' f' g') (h1 : dj (lIv ++ [85, 88, 89, 90]) Am) (h2 : dj (lIf ++ [49, 57, 58, 59, 60]) Fm) (h3 : dj [12, 17] Gm) (rQ' : rQ v' f' g' m' nd' qs') (pQ' : pQ m' nd' qs') (hm : mc ≤ 1170) (hs : ms ≤ 13440) : Rel (k + 1) T dp x out v' f' g' (cd + mc) (dd + ms) := by
  obtain ⟨h1a, h1b⟩ := dj_app h1
  obtain ⟨h2a, h2b⟩ := dj_app h2
  have hlen : qs.length ≤ qs'.length := by
    by_cases c : qs.length = 0
    · omega
    · have e := hq (qs.length - 1) (by omega)
      obtain ⟨z, hz⟩ := get_ex (l := qs) (k := qs.length - 1) (by omega)
      rw [hz] at e
      have := get_lt e
      omega
  have ext : ∀ y, y ∈ CL → sg y.2.1 = sg y.2.1 ∧ ∀ j, j < (sg y.2.1).length → mbQ qs' sg y.1 y.2.1 j = mbQ qs sg y.1 y.2.1 j := fun y hy => ⟨rfl, fun j _ => by
    unfold mbQ
    rw [hq y.1 (b3.2.2.1 y hy).1]⟩
  exact ⟨ρ', WL, n', P', ks, A, yn, F, G, ad, c0, c1, n0, P0, n1, P1, lT, oT, so, sd, sg, made, B, ix, mg, cm, pr, sn, op, fi, w, cc, off, dn, hd, sl, m', nd', qs', w0, w1, H, sk, tk, CL, u, RR, ⟨gIx_fk (fr_fk fT (dj_n hM (by decide))) (dj_sub hM (by decide)) a2 xρ (fun q hq => xr q (fun e => by rw [e] at hq; revert hq; decide)) (fun q _ => xi q) a1, a2⟩, ⟨gP, gQ⟩, ⟨gRd_f fT (dj_sub hM (by decide)) (xr _ (by decide)) a5, gFn_ext ext (gFn_f fT (dj_sub hM (by decide)) (xr _ (by decide)) (xr _ (by decide)) a6)⟩, rI_fr hF h1a h2a h3 a7, rQ', rFi_fr hF h1b h2b a9, pI_k (by omega) (fun _ z => z) b1, pQ', ⟨b3.1, b3.2.1, fun y hy => ⟨Nat.lt_of_lt_of_le (b3.2.2.1 y hy).1 hlen, (b3.2.2.1 y hy).2⟩, by have := b3.2.2.2; omega⟩, by omega, by omega⟩
/-- .. that made the pad to tokens -/
theorem rQ_lf (hL : lfF f f' g g') (h73 : v' 73 = v 73) (hP : rPr v' f' g' m' nd') (a8 : rQ v f g m nd qs) : rQ v' f' g' m' nd' qs := ⟨hP, rQl_lf h73 hL a8.2.1, fun c hc => hL.1 c (a8.2.2 c hc)⟩
/-- a leaf was put -/
theorem Rel_Ql (hl : Lp k WL S ρ x v f g n P ks A yn F G ad c0 c1 n0 P0 n1 P1) (o : cA S out 15 ∧ cn S out = 1 ∧ ρ out = 90) (a1 : gIx S ρ dp x so sd sg made B ix mg cm pr sn op fi w cc off) (a2 : ixM made ix mg cm pr sn) (a4 : gQl S ρ dp x qs) (a5 : gRd S ρ x w0 w1) (a6 : gFn S ρ x H sk tk CL u (mbQ qs sg) sg) (a7 : rI v f g (lgT ks A yn F G) made dn sg hd B ix mg cm pr sl op fi w cc off) (a8 : rQ v f g m nd qs) (a9 : rFi v f w0 w1 H sk tk RR) (b1 : pI k WL (lgT ks A yn F G) ad sg made B ix mg cm pr sn sl op cc off) (b3 : pF k made qs w0 w1 CL u RR) (b7 : cd + 610 * (B.length + mgC mg) ≤ 174 + 1170 * k) (b8 : dd + 7000 * (B.length + mgC mg) ≤ 409927 + 13440 * k) (fT : fr S T ρ ρ' [2, 3, 13]) (gL : gLD T ρ' x 0 P' ks A yn F G ad (nI c0) (nI c1) n0 P0 n1 P1) (gP : gPr T ρ' dp x m' nd') (f90 : fr T U ρ' ρ' [90]) (oU : cA U out 15 ∧ cn U out = 1 ∧ ρ' out = 90) (hF : rF Am Fm Gm v f g v' f' g') (h1 : dj (lIv ++ [85, 88, 89, 90, 73, 6, 9, 10, 13, 14]) Am) (h2 : dj (lIf ++ [49, 57, 58, 59, 60, 8]) Fm) (h3 : dj [12, 17, 1, 4, 5, 6, 7] Gm) (e2 : v' 2 = nI 0) (hL : lfF f f' g g') (hP : rPr v' f' g' m' nd') (pQ' : pQ m' nd' qs) (hm : mc ≤ 1170) (hs : ms ≤ 13440) : Rel (k + 1) U dp x out v' f' g' (cd + mc) (dd + ms) := by
  have hx := hl.1
  have fU : fr S U ρ ρ' [2, 3, 13, 90] := fr_mix (fr_up fT (by decide)) (fr_up f90 (by decide))
  obtain ⟨h1a, h1b⟩ := dj_app h1
  obtain ⟨h2a, h2b⟩ := dj_app h2
  have xρ : ρ' x = 1 := (fU.2 x hx.1.1 (by rw [hx.2.1]; decide)).trans hx.2.1
  have xr : ∀ q, cr U q x = cr S q x := fun q => fr_cr fU hx.1 (by rw [hx.2.1]; decide)
  have xi : ∀ q, ci U q x = ci S q x := fun q => fr_ci fU hx.1 (by rw [hx.2.1]; decide)
  obtain ⟨l1, l2, l3, l4, l5, l6⟩ := hl
  refine Rel_Q (n' := 0) (P' := P') ⟨gLD_90 f90 gL, rL_pad hF (dj_sub h1b (by decide)) (dj_sub h2b (by decide)) (dj_sub h3 (by decide)) ⟨e2, Nat.zero_le _, fun j hj => absurd hj (Nat.not_lt_zero j)⟩ l2, by omega, l4, l5, l6⟩ a1 a2 a5 a6 a7 a9 b1 b3 b7 b8 fU (by decide) (fun z _ => xr z) xi xρ (gPr_f f90 (by decide) (by decide) (by decide) (fr_cr f90 (fr_A fT hx.1) (by rw [xρ]; decide)) gP) (gQl_f fU (by decide) (by decide) (by decide) (xr _) a4) oU (fun _ _ => rfl) hF ?_ ?_ (dj_sub h3 (by decide)) (rQ_lf hL (hF.1 73 (dj_n h1b (by decide))) hP a8) pQ' hm hs
  · unfold dj at h1 ⊢
    rw [List.all_append, Bool.and_eq_true] at h1 ⊢
    exact ⟨h1.1, List.all_eq_true.mpr (fun i hi => List.all_eq_true.mp h1.2 i (by revert hi; simp; omega))⟩
  · unfold dj at h2 ⊢
    rw [List.all_append, Bool.and_eq_true] at h2 ⊢
    exact ⟨h2.1, List.all_eq_true.mpr (fun i hi => List.all_eq_true.mp h2.2 i (by revert hi; simp; omega))⟩
/-- a leaf was refused, behind the reading of the pad -/
theorem Rel_Qx (hl : Lp k WL S ρ x v f g n P ks A yn F G ad c0 c1 n0 P0 n1 P1) (hr : Rest (lgT ks A yn F G) ad k WL S ρ dp x out v f g cd dd) (fT : fr S T ρ ρ' [2, 3]) (gL : gLD T ρ' x n P ks A yn F G ad (nI c0) (nI c1) n0 P0 n1 P1) (hF : rF [99, 4, 77] [51] [3, 50] v f g v' f' g') (hm : mc ≤ 1170) (hs : ms ≤ 13440) : Rel (k + 1) T dp x out v' f' g' (cd + mc) (dd + ms) := by
  obtain ⟨l1, l2, l3, l4, l5, l6⟩ := hl
  exact Rel_L fT (by decide) (out_fr fT (by decide) hr.1) hF (by decide) (by decide) (by decide) (fun _ z => z) hm hs hr ⟨gL, rL_fr hF (by decide) (by decide) (by decide) l2, by omega, l4, l5, l6⟩
theorem Rel_Q0 (hl : Lp k WL S ρ x v f g n P ks A yn F G ad c0 c1 n0 P0 n1 P1) (hr : Rest (lgT ks A yn F G) ad k WL S ρ dp x out v f g cd dd) (hF : rF [99, 4, 77] [51] [3, 50] v f g v' f' g') (hm : mc ≤ 1170) (hs : ms ≤ 13440) : Rel (k + 1) S dp x out v' f' g' (cd + mc) (dd + ms) := by
  obtain ⟨l1, l2, l3, l4, l5, l6⟩ := hl
  exact Rel_L (M := []) fr_rf (by decide) hr.1 hF (by decide) (by decide) (by decide) (fun _ z => z) hm hs hr ⟨l1, rL_fr hF (by decide) (by decide) (by decide) l2, by omega, l4, l5, l6⟩
end CASQ
