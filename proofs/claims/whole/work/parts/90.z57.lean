/-! both worlds together: joints, scrap, query -/
section CASU
variable {S T U S8 : cS} {ρ ρ' : Nat → Nat} {M Am Fm Gm : List Nat} {v v' : Nat → Int32} {f f' : Nat → Nat → Int32} {g g' : Nat → Nat → Int64} {dp x out k cd dd L : Nat} {x4 : Int32} {xs : Nat → Int32} {R : Int32 → Nat → Nat → cS → (Nat → Int32) → (Nat → Nat → Int32) → (Nat → Nat → Int64) → Prop}
variable {n : Nat} {P : Nat → Nat} {ks : Nat} {A : Nat → Int64} {yn : Nat} {F G : Nat → Int64} {ad : Bool} {c0 c1 n0 : Nat} {P0 : Nat → Nat} {n1 : Nat} {P1 : Nat → Nat} {WL : List Int64} {mc ms : Nat}
variable {so : Nat → Nat} {sd : Nat → List Nat} {sg : Nat → List Dc} {made : Nat} {B : List Dc} {ix : Vw} {mg : Option (Vw × Nat)} {cm pr : Option Vw} {sn : List (Nat × Vw)} {op fi w : Nat} {cc : Option Nat} {off : Bool} {dn : Nat} {hd : Nat → Nat → Nat} {sl : Nat → Option (Nat × Vw)} {m : Nat} {nd : Nat → Nd} {qs : List (Nat × (Nat → Nd))} {w0 w1 : Nat} {H : List (Nat × Nat)} {sk tk : Nat} {CL : List (Nat × Nat × Nat)} {u : Nat} {RR : List (Nat × Nat)}
variable {n' : Nat} {P' : Nat → Nat} {m' : Nat} {nd' : Nat → Nd} {qs' : List (Nat × (Nat → Nd))}
/-- a joint was put -/
theorem Rel_Qj (hl : Lp k WL S ρ x v f g n P ks A yn F G ad c0 c1 n0 P0 n1 P1) (o : cA S out 15 ∧ cn S out = 1 ∧ ρ out = 90) (a1 : gIx S ρ dp x so sd sg made B ix mg cm pr sn op fi w cc off) (a2 : ixM made ix mg cm pr sn) (a4 : gQl S ρ dp x qs) (a5 : gRd S ρ x w0 w1) (a6 : gFn S ρ x H sk tk CL u (mbQ qs sg) sg) (a7 : rI v f g (lgT ks A yn F G) made dn sg hd B ix mg cm pr sl op fi w cc off) (a8 : rQ v f g m nd qs) (a9 : rFi v f w0 w1 H sk tk RR) (b1 : pI k WL (lgT ks A yn F G) ad sg made B ix mg cm pr sn sl op cc off) (b3 : pF k made qs w0 w1 CL u RR) (b7 : cd + 610 * (B.length + mgC mg) ≤ 174 + 1170 * k) (b8 : dd + 7000 * (B.length + mgC mg) ≤ 409927 + 13440 * k) (fT : fr S T ρ ρ' [12, 13]) (gP : gPr T ρ' dp x m' nd') (f90 : fr T U ρ' ρ' [90]) (oU : cA U out 15 ∧ cn U out = 1 ∧ ρ' out = 90) (hF : rF [99, 72] [40, 42, 44, 48] [] v f g v' f' g) (hL : lfF f f' g g) (hP : rPr v' f' g m' nd') (pQ' : pQ m' nd' qs) (hm : mc ≤ 1170) (hs : ms ≤ 13440) : Rel (k + 1) U dp x out v' f' g (cd + mc) (dd + ms) := by
  have hx := hl.1
  have fU : fr S U ρ ρ' [12, 13, 90] := fr_mix (fr_up fT (by decide)) (fr_up f90 (by decide))
  have xρ : ρ' x = 1 := (fU.2 x hx.1.1 (by rw [hx.2.1]; decide)).trans hx.2.1
  have xr : ∀ q, cr U q x = cr S q x := fun q => fr_cr fU hx.1 (by rw [hx.2.1]; decide)
  have xi : ∀ q, ci U q x = ci S q x := fun q => fr_ci fU hx.1 (by rw [hx.2.1]; decide)
  exact Rel_Q (Lp_fr fU (by decide) xρ (fun q _ => xr q) hF (by decide) (by decide) (by decide) hl) a1 a2 a5 a6 a7 a9 b1 b3 b7 b8 fU (by decide) (fun z _ => xr z) xi xρ (gPr_f f90 (by decide) (by decide) (by decide) (fr_cr f90 (fr_A fT hx.1) (by rw [xρ]; decide)) gP) (gQl_f fU (by decide) (by decide) (by decide) (xr _) a4) oU (fun _ _ => rfl) hF (by decide) (by decide) (by decide) (rQ_lf hL (hF.1 73 (by decide)) hP a8) pQ' hm hs
theorem jn_G {l c : Nat} (hl : l ≤ 8) : nLf ((6, 0, l, c), false, [], [], 0) = false ∧ ndG ((6, 0, l, c), false, [], [], 0) := ⟨rfl, fun e => absurd e (by show ¬ (6 : Nat) = 0; decide), fun a b x y _ hx => absurd (get_lt hx) (Nat.not_lt_zero a), fun x hx => absurd hx List.not_mem_nil, fun e => absurd e (by show ¬ (6 : Nat) = 7; decide)⟩
theorem jb_G : nLf ((7, 0, 1, 2), false, [], [], 0) = false ∧ ndG ((7, 0, 1, 2), false, [], [], 0) := ⟨rfl, fun e => absurd e (by show ¬ (7 : Nat) = 0; decide), fun a b x y _ hx => absurd (get_lt hx) (Nat.not_lt_zero a), fun x hx => absurd hx List.not_mem_nil, fun _ => rfl⟩
theorem lc_40 (hI : Rel k S dp x out v f g cd dd) (hk : k < 512) (hx4 : x4 = nI (6 * k)) (hL : 6 * k + 6 ≤ L) (hL2 : L ≤ 3072) (hN : nxR R k dp x out x4) : lw_c40 R xs L dp x out x4 cd dd S v f g := by
  have vp1 := vp6 hx4 hL hL2 (show 1 < 6 by decide)
  have vp2 := vp6 hx4 hL hL2 (show 2 < 6 by decide)
  unfold lw_c40
  obtain ⟨y1, ey1⟩ : ∃ y1, y1 = xs (x4 + nI 1).toNatClampNeg := ⟨_, rfl⟩
  rw [← ey1]
  obtain ⟨y2, ey2⟩ : ∃ y2, y2 = xs (x4 + nI 2).toNatClampNeg := ⟨_, rfl⟩
  rw [← ey2]
  have hx6 := Rel_x (t := nI 1) (mc := 1) (ms := 6) (by decide) (by decide) hI
  have bd := Rel_bd (by omega) hx6
  have bd0 := Rel_bd (by omega) hI
  obtain ⟨ρ, WL, n, P, ks, A, yn, F, G, ad, c0, c1, n0, P0, n1, P1, hl, hr⟩ := id hI
  obtain ⟨o, so, sd, sg, made, B, ix, mg, cm, pr, sn, op, fi, w, cc, off, dn, hd, sl, m, nd, qs, w0, w1, H, sk, tk, CL, u, RR, ⟨a1, a2⟩, ⟨a3, a4⟩, ⟨a5, a6⟩, a7, a8, a9, b1, b2, b3, b7, b8⟩ := id hr
  obtain ⟨⟨i98, i97, i96, i39, i48⟩, iB, iS, iX, iM, iC, iP, iK, iZ, iW⟩ := id a7
  obtain ⟨⟨p1, p2, p3, p4, p5⟩, p6, p7, ⟨p8, p8b, p8c, p8d⟩, p9, p10, p11, p12, p13, p14⟩ := id b1
  have hx : cA S x 11 := hl.1.1
  have hρ : ρ x = 1 := hl.1.2.1
  have hdp : dpO dp S := a1.1.2.2
  obtain ⟨ps8, pm48, m47⟩ := pQ_m b2
  have l24 : (lfI nd m).length ≤ 24 := b2.2.2.2.1
  have hx61 := Rel_x (t := nI 1) (mc := 10) (ms := 200) (by decide) (by decide) hI
  have hx62 := Rel_x (t := nI 2) (mc := 10) (ms := 200) (by decide) (by decide) hI
  have bd2 := Rel_bd (by omega) hx61
  refine ⟨vp1, vp2, 10, 200, bd2, ?_⟩
  unfold kw_L_least
  by_cases hy : ∃ k l, 2 ≤ k ∧ k ≤ 8 ∧ 1 ≤ l ∧ l ≤ k ∧ y1 = nI k ∧ y2 = nI l
  · obtain ⟨kk, ll, h1, h2, h3, h4, rfl, rfl⟩ := hy
    by_cases hc : kk ≤ (qsS nd m).1
    · refine ⟨hl.1.1, Or.inl ⟨10, 200, by omega, by omega, g_least hx hρ a3 ⟨h1, h2⟩ ⟨h3, h4⟩ hc ps8 (by omega) hdp (by omega) (by omega) (fun T ρ' fT tT xr gP => cls_out (by omega) (out_fr fT (by decide) o) (fun S8 f90 o8 j8 => ⟨vp1, vp2, bd2, ?_⟩))⟩⟩
      refine p_least a8.1 (fun c => by omega) (by omega) (fun w => absurd ⟨kk, ll, h1, h2, h3, h4, rfl, rfl⟩ w) (fun k' a' _ g1 _ _ e _ w => ?_) (fun k' a' _ g1 _ _ e e2 _ v' f' hF h99 hL hP => ?_)
      · exfalso
        obtain rfl : kk = k' := (nI_eq (by omega) (by omega)).mp e
        omega
      obtain rfl : kk = k' := (nI_eq (by omega) (by omega)).mp e
      obtain rfl : ll = a' := (nI_eq (by omega) (by omega)).mp e2
      obtain ⟨d1, d2⟩ := jn_G (l := ll) (c := kk) (by omega)
      have hrel : Rel (k + 1) S8 dp x out v' f' g (cd + 10) (dd + 200) := Rel_Qj hl o a1 a2 a4 a5 a6 a7 a8 a9 b1 b3 b7 b8 (fr_up fT (by decide)) gP f90 o8 hF hL hP (pQ_jn b2 d1 ⟨by show 6 ≤ 6; decide, by show 6 ≤ 7; decide⟩ ⟨h1, hc⟩ (show ll ≤ 8 by omega) d2) (by decide) (by decide)
      exact tl_ok bd2 h99 (out_X o8) j8 (hN _ _ _ _ _ _ hrel)
    · refine ⟨hl.1.1, Or.inr (Or.inr ⟨10, 200, by omega, x_leastS hx a3 ⟨h1, h2⟩ ⟨h3, h4⟩ (by omega) (by omega) (by omega) ⟨by omega, vp1, vp2, bd2, ?_⟩⟩)⟩
      refine p_least a8.1 (fun c => by omega) (by omega) (fun w => absurd ⟨kk, ll, h1, h2, h3, h4, rfl, rfl⟩ w) (fun k' a' _ g1 _ _ e _ w => tl_x (by decide) bd2 upd_at (hN _ _ _ _ _ _ hx62)) (fun k' a' _ g1 _ _ e e2 w => ?_)
      exfalso
      obtain rfl : kk = k' := (nI_eq (by omega) (by omega)).mp e
      omega
  · refine ⟨hl.1.1, Or.inr (Or.inl ⟨10, 200, by omega, x_leastA hy (by omega) (by omega) ⟨by omega, vp1, vp2, bd2, ?_⟩⟩)⟩
    exact p_least a8.1 (fun c => by omega) (by omega) (fun w => tl_x (by decide) bd2 upd_at (hN _ _ _ _ _ _ hx61)) (fun k' a' g0 g1 g2 g3 e e2 _ => absurd ⟨k', a', g0, g1, g2, g3, e, e2⟩ hy) (fun k' a' g0 g1 g2 g3 e e2 => absurd ⟨k', a', g0, g1, g2, g3, e, e2⟩ hy)
theorem lc_41 (hI : Rel k S dp x out v f g cd dd) (hk : k < 512) (hN : nxR R k dp x out x4) : lw_c41 R xs L dp x out x4 cd dd S v f g := by
  unfold lw_c41
  have hx6 := Rel_x (t := nI 1) (mc := 1) (ms := 6) (by decide) (by decide) hI
  have bd := Rel_bd (by omega) hx6
  have bd0 := Rel_bd (by omega) hI
  obtain ⟨ρ, WL, n, P, ks, A, yn, F, G, ad, c0, c1, n0, P0, n1, P1, hl, hr⟩ := id hI
  obtain ⟨o, so, sd, sg, made, B, ix, mg, cm, pr, sn, op, fi, w, cc, off, dn, hd, sl, m, nd, qs, w0, w1, H, sk, tk, CL, u, RR, ⟨a1, a2⟩, ⟨a3, a4⟩, ⟨a5, a6⟩, a7, a8, a9, b1, b2, b3, b7, b8⟩ := id hr
  obtain ⟨⟨i98, i97, i96, i39, i48⟩, iB, iS, iX, iM, iC, iP, iK, iZ, iW⟩ := id a7
  obtain ⟨⟨p1, p2, p3, p4, p5⟩, p6, p7, ⟨p8, p8b, p8c, p8d⟩, p9, p10, p11, p12, p13, p14⟩ := id b1
  have hx : cA S x 11 := hl.1.1
  have hρ : ρ x = 1 := hl.1.2.1
  have hdp : dpO dp S := a1.1.2.2
  obtain ⟨ps8, pm48, m47⟩ := pQ_m b2
  have l24 : (lfI nd m).length ≤ 24 := b2.2.2.2.1
  have hx61 := Rel_x (t := nI 1) (mc := 10) (ms := 200) (by decide) (by decide) hI
  have hx62 := Rel_x (t := nI 2) (mc := 10) (ms := 200) (by decide) (by decide) hI
  have bd2 := Rel_bd (by omega) hx61
  refine ⟨10, 200, bd2, ?_⟩
  unfold kw_L_but
  by_cases hc : 2 ≤ (qsS nd m).1
  · have hst := qsS_st b2.1 m (Nat.le_refl _) ((qsS nd m).1 - 1) (by omega)
    refine ⟨hl.1.1, Or.inl ⟨10, 200, by omega, by omega, g_but hx hρ a3 hc ps8 (by omega) (by omega) hdp (by omega) (by omega) (fun T ρ' fT tT xr gP => cls_out (by omega) (out_fr fT (by decide) o) (fun S8 f90 o8 j8 => ⟨bd2, ?_⟩))⟩⟩
    refine p_but a8.1 (fun c => by omega) (by omega) (fun w => absurd w (by omega)) (fun _ v' f' hF h99 hL hP => ?_)
    obtain ⟨d1, d2⟩ := jb_G
    have hrel : Rel (k + 1) S8 dp x out v' f' g (cd + 10) (dd + 200) := Rel_Qj hl o a1 a2 a4 a5 a6 a7 a8 a9 b1 b3 b7 b8 fT gP f90 o8 hF hL hP (pQ_jn b2 d1 ⟨by show 6 ≤ 7; decide, by show 7 ≤ 7; decide⟩ ⟨by show 2 ≤ 2; decide, hc⟩ (show 1 ≤ 8 by decide) d2) (by decide) (by decide)
    exact tl_ok bd2 h99 (out_X o8) j8 (hN _ _ _ _ _ _ hrel)
  · refine ⟨hl.1.1, Or.inr ⟨10, 200, by omega, x_but hx a3 (by omega) (by omega) (by omega) ⟨by omega, bd2, ?_⟩⟩⟩
    exact p_but a8.1 (fun c => by omega) (by omega) (fun _ => tl_x (by decide) bd2 upd_at (hN _ _ _ _ _ _ hx61)) (fun w => absurd w hc)
theorem lc_42 (hI : Rel k S dp x out v f g cd dd) (hk : k < 512) (hN : nxR R k dp x out x4) : lw_c42 R xs L dp x out x4 cd dd S v f g := by
  unfold lw_c42
  have hx6 := Rel_x (t := nI 1) (mc := 1) (ms := 6) (by decide) (by decide) hI
  have bd := Rel_bd (by omega) hx6
  have bd0 := Rel_bd (by omega) hI
  obtain ⟨ρ, WL, n, P, ks, A, yn, F, G, ad, c0, c1, n0, P0, n1, P1, hl, hr⟩ := id hI
  obtain ⟨o, so, sd, sg, made, B, ix, mg, cm, pr, sn, op, fi, w, cc, off, dn, hd, sl, m, nd, qs, w0, w1, H, sk, tk, CL, u, RR, ⟨a1, a2⟩, ⟨a3, a4⟩, ⟨a5, a6⟩, a7, a8, a9, b1, b2, b3, b7, b8⟩ := id hr
  obtain ⟨⟨i98, i97, i96, i39, i48⟩, iB, iS, iX, iM, iC, iP, iK, iZ, iW⟩ := id a7
  obtain ⟨⟨p1, p2, p3, p4, p5⟩, p6, p7, ⟨p8, p8b, p8c, p8d⟩, p9, p10, p11, p12, p13, p14⟩ := id b1
  have hx : cA S x 11 := hl.1.1
  have hρ : ρ x = 1 := hl.1.2.1
  have hdp : dpO dp S := a1.1.2.2
  obtain ⟨ps8, pm48, m47⟩ := pQ_m b2
  have l24 : (lfI nd m).length ≤ 24 := b2.2.2.2.1
  have hx61 := Rel_x (t := nI 1) (mc := 10) (ms := 300) (by decide) (by decide) hI
  have hx62 := Rel_x (t := nI 2) (mc := 10) (ms := 300) (by decide) (by decide) hI
  have bd2 := Rel_bd (by omega) hx61
  have q40 := a8.2.1.2.1
  refine ⟨10, 300, bd2, ?_⟩
  unfold kw_L_query
  by_cases hc : (qsS nd m).1 = 1 ∧ qs.length < 40
  · refine ⟨hl.1.1, Or.inl ⟨10, 300, by omega, by omega, g_queryI hx hρ a3 a4 hc.1 hc.2 hdp (by omega) (by omega) (fun T ρ' fT xr xi xρ gP gQ => cls_out (by omega) (out_fr fT (by decide) o) (fun S8 f90 o8 j8 => ⟨bd2, ?_⟩))⟩⟩
    refine p_query a8.1 a8.2.1 (by omega) (by omega) a8.2.2 (fun w => absurd w (by omega)) (fun _ _ v' f' g' hF h99 hz hP hQ => ?_)
    have xA : cA T x 11 := fr_A fT hx
    have xu : ∀ q, cr S8 q x = cr T q x := fun q => fr_cr f90 xA (by rw [xρ]; decide)
    have xv : ∀ q, ci S8 q x = ci T q x := fun q => fr_ci f90 xA (by rw [xρ]; decide)
    have fU : fr S S8 ρ ρ' [1, 12, 13, 16, 90] := fr_mix (fr_up fT (by decide)) (fr_up f90 (by decide))
    have pq : pQ 0 nd (qs ++ [(m, nd)]) := by
      obtain ⟨q1, q2, q3, q4, q5⟩ := pQ_0 b2
      refine ⟨q1, q2, q3, q4, fun e he => ?_⟩
      rcases List.mem_append.mp he with h | h
      · exact q5 e h
      · rw [List.mem_singleton.mp h]
        exact ⟨⟨b2.1, l24, hc.1, show m < 100 by omega⟩, b2.2.1⟩
    have hrel : Rel (k + 1) S8 dp x out v' f' g' (cd + 10) (dd + 300) := Rel_Q (Lp_fr fU (by decide) xρ (fun q hq => (xu q).trans (xr q (by rcases hq with rfl | rfl <;> decide))) hF (by decide) (by decide) (by decide) hl) a1 a2 a5 a6 a7 a9 b1 b3 b7 b8 fU (by decide) (fun z hz => (xu z).trans (xr z hz)) (fun z => (xv z).trans (xi z)) xρ (gPr_f f90 (by decide) (by decide) (by decide) (xu _) (gP nd)) (gQl_f f90 (by decide) (by decide) (by decide) (xu _) gQ) o8 (fun i hi => List.getElem?_append_left hi) hF (by decide) (by decide) (by decide) ⟨hP nd, hQ, fun c hc => hz c (a8.2.2 c hc)⟩ pq (by decide) (by decide)
    exact tl_ok bd2 h99 (out_X o8) j8 (hN _ _ _ _ _ _ hrel)
  · refine ⟨hl.1.1, Or.inr ⟨10, 300, by omega, x_query hx a3 a4 (by omega) (by omega) (by omega) (by omega) ⟨by omega, bd2, ?_⟩⟩⟩
    exact p_query a8.1 a8.2.1 (by omega) (by omega) a8.2.2 (fun _ => tl_x (by decide) bd2 upd_at (hN _ _ _ _ _ _ hx61)) (fun q1 q2 => absurd ⟨q1, q2⟩ hc)
theorem lc_43 (hI : Rel k S dp x out v f g cd dd) (hk : k < 512) (hN : nxR R k dp x out x4) : lw_c43 R xs L dp x out x4 cd dd S v f g := by
  unfold lw_c43
  have hx6 := Rel_x (t := nI 1) (mc := 1) (ms := 6) (by decide) (by decide) hI
  have bd := Rel_bd (by omega) hx6
  have bd0 := Rel_bd (by omega) hI
  obtain ⟨ρ, WL, n, P, ks, A, yn, F, G, ad, c0, c1, n0, P0, n1, P1, hl, hr⟩ := id hI
  obtain ⟨o, so, sd, sg, made, B, ix, mg, cm, pr, sn, op, fi, w, cc, off, dn, hd, sl, m, nd, qs, w0, w1, H, sk, tk, CL, u, RR, ⟨a1, a2⟩, ⟨a3, a4⟩, ⟨a5, a6⟩, a7, a8, a9, b1, b2, b3, b7, b8⟩ := id hr
  obtain ⟨⟨i98, i97, i96, i39, i48⟩, iB, iS, iX, iM, iC, iP, iK, iZ, iW⟩ := id a7
  obtain ⟨⟨p1, p2, p3, p4, p5⟩, p6, p7, ⟨p8, p8b, p8c, p8d⟩, p9, p10, p11, p12, p13, p14⟩ := id b1
  have hx : cA S x 11 := hl.1.1
  have hρ : ρ x = 1 := hl.1.2.1
  have hdp : dpO dp S := a1.1.2.2
  obtain ⟨ps8, pm48, m47⟩ := pQ_m b2
  have l24 : (lfI nd m).length ≤ 24 := b2.2.2.2.1
  have hx61 := Rel_x (t := nI 1) (mc := 5) (ms := 27) (by decide) (by decide) hI
  have hx62 := Rel_x (t := nI 2) (mc := 5) (ms := 27) (by decide) (by decide) hI
  have bd2 := Rel_bd (by omega) hx61
  refine ⟨hx, 5, 27, bd2, g_scrapI hx hρ a3 hdp (Nat.le_refl _) (Nat.le_refl _) (fun T ρ' fT xr xi xρ gP => ⟨bd2, ?_⟩)⟩
  refine p_scrap a8.1 (fun v' f' hF h99 h48 hP => ⟨rfl, ?_⟩)
  have e1 : ∀ r, r ≠ 48 → f' r = f r := fun r hr => hF.2.1 r (fun c => hr (List.mem_singleton.mp c))
  have hL : lfF f f' g g := ⟨zK_eq (e1 43 (by decide)), h48, fun c _ => by rw [e1 40 (by decide), e1 41 (by decide), e1 42 (by decide), e1 43 (by decide), e1 44 (by decide)]; exact ⟨rfl, rfl, rfl, rfl, rfl⟩, fun c _ => by rw [e1 46 (by decide)]; exact ⟨rfl, rfl⟩, fun c _ => by rw [e1 47 (by decide)]⟩
  have hrel : Rel (k + 1) T dp x out v' f' g (cd + 5) (dd + 27) := Rel_Q (Lp_fr fT (by decide) xρ (fun q hq => xr q (by rcases hq with rfl | rfl <;> decide)) hF (by decide) (by decide) (by decide) hl) a1 a2 a5 a6 a7 a9 b1 b3 b7 b8 fT (by decide) xr xi xρ (gP nd) (gQl_f fT (by decide) (by decide) (by decide) (xr _ (by decide)) a4) (out_fr fT (by decide) o) (fun _ _ => rfl) hF (by decide) (by decide) (by decide) (rQ_lf hL (hF.1 73 (by decide)) (hP nd) a8) (pQ_0 b2) (by decide) (by decide)
  exact tail_ok hN hrel
end CASU
