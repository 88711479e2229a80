/-! both worlds together: leaves -/
section TKF
variable {ks : Nat} {A F G : Nat → Int64} {yn : Nat} {P : Nat → Nat} {n : Nat}
theorem tkP_0 : tkP (lgT ks A yn F G) P n = tk0 ks A F G P n := rfl
theorem tk0_ok (hn : n ≤ 40) : okT (tk0 ks A F G P n) := by
  have := wdC_le P n
  exact (tk_ok (F := F) (S := G) (yn := 0) (stp := fun c => anyB (fun j => A j == c) ks) (st := fun k => lN (stW (wdW P n k))) (n := wdC P n) (by omega) (by omega)).1
theorem gp_20 {l : List (Int64 × Nat)} (h : okT l) (i : Nat) : gpT l i ≤ 20 := by
  unfold gpT
  split
  · omega
  · rw [List.getD_eq_getElem?_getD]
    cases e : l[i]? with
    | none => show 0 - _ ≤ 20; omega
    | some x =>
      have := h.2.1 x (List.mem_of_getElem? e)
      show x.2 - _ ≤ 20; omega
theorem okT_M {d : Nd} (h : okT (nT d)) : tkM d := fun a b x y hab hx hy => (h.2.2 a b x y hab hx hy).1
theorem lf_tok {kd f s : Nat} {b : Bool} {T : List (Int64 × Nat)} (hk : kd ≤ 2) (hT : okT T) (h1 : 1 ≤ T.length ∧ T.length ≤ 6) (h0 : kd = 0 → T.length = 1) (h2 : kd = 2 → T.length = 2) (hs : s ≤ 20) : nLf ((kd, f, s, 0), b, T, [], 0) = true ∧ (tkOk ((kd, f, s, 0), b, T, [], 0) ∨ tlOk ((kd, f, s, 0), b, T, [], 0)) ∧ ndG ((kd, f, s, 0), b, T, [], 0) := by
  refine ⟨decide_eq_true (show kd < 6 by omega), Or.inl ⟨hk, h1.1, h1.2, hs, h2, gp_20 hT⟩, h0, okT_M hT, fun x hx => hT.2.1 x hx, fun e => ?_⟩
  have e : kd = 7 := e
  omega
theorem lf_word {kd f s w : Nat} (hk : kd = 3 ∨ kd = 5) (hs : s ≤ 20) (hw : w < 37 ^ 12) : nLf ((kd, f, s, 0), false, [], [], w) = true ∧ (tkOk ((kd, f, s, 0), false, [], [], w) ∨ tlOk ((kd, f, s, 0), false, [], [], w)) ∧ ndG ((kd, f, s, 0), false, [], [], w) := by
  refine ⟨decide_eq_true (show kd < 6 by omega), Or.inr ⟨show 3 ≤ kd by omega, show kd ≤ 5 by omega, hs, hw, ?_, rfl⟩, fun e => ?_, fun a b x y _ hx => absurd (get_lt hx) (Nat.not_lt_zero a), fun x hx => absurd hx List.not_mem_nil, fun e => ?_⟩
  · rcases hk with rfl | rfl
    · obtain ⟨e1, e2, e3⟩ := ptA_pre (d := ((3, f, s, 0), false, [], [], w)) rfl
      have h12 := lnW_le w
      refine ⟨by rw [e1]; show lnW w + 1 ≤ 13; omega, fun k hk => ?_⟩
      rw [e1] at hk
      have hk : k < lnW w + 1 := hk
      by_cases c : k = lnW w
      · have e3 : ptA ((3, f, s, 0), false, [], [], w) (lnW w) = 38 := e3
        rw [c, e3]; decide
      · rw [e2 k (show k < lnW w by omega)]
        have := dg_lt w k
        show dg w k < 39; omega
    · have e1 : ptN ((5, f, s, 0), false, [], [], w) = [] := by
        have h3 : ¬ nK ((5, f, s, 0), false, [], [], w) = 3 := (by decide : ¬ (5 : Nat) = 3)
        have h4 : ¬ nK ((5, f, s, 0), false, [], [], w) = 4 := (by decide : ¬ (5 : Nat) = 4)
        unfold ptN
        rw [if_neg h3, if_neg h4]
      exact ⟨by rw [e1]; exact Nat.zero_le _, fun k hk => by rw [e1] at hk; exact absurd hk (Nat.not_lt_zero k)⟩
  · have e : kd = 0 := e
    omega
  · have e : kd = 7 := e
    omega
theorem lf_wild {f : Nat} (hn : n ≤ 12) : nLf ((4, f, 0, 0), false, [], (List.range n).map (fun k => pfN (P k)), 0) = true ∧ (tkOk ((4, f, 0, 0), false, [], (List.range n).map (fun k => pfN (P k)), 0) ∨ tlOk ((4, f, 0, 0), false, [], (List.range n).map (fun k => pfN (P k)), 0)) ∧ ndG ((4, f, 0, 0), false, [], (List.range n).map (fun k => pfN (P k)), 0) := by
  have e1 : ptN ((4, f, 0, 0), false, [], (List.range n).map (fun k => pfN (P k)), 0) = (List.range n).map (fun k => pfN (P k)) := by
    have h3 : ¬ nK ((4, f, 0, 0), false, [], (List.range n).map (fun k => pfN (P k)), 0) = 3 := (by decide : ¬ (4 : Nat) = 3)
    have h4 : nK ((4, f, 0, 0), false, [], (List.range n).map (fun k => pfN (P k)), 0) = 4 := rfl
    unfold ptN
    rw [if_neg h3, if_pos h4]; rfl
  refine ⟨rfl, Or.inr ⟨show 3 ≤ 4 by decide, show 4 ≤ 5 by decide, show 0 ≤ 20 by decide, show 0 < 37 ^ 12 by decide, ⟨?_, fun k hk => ?_⟩, rfl⟩, fun e => absurd e (show ¬ (4 : Nat) = 0 by decide), fun a b x y _ hx => absurd (get_lt hx) (Nat.not_lt_zero a), fun x hx => absurd hx List.not_mem_nil, fun e => absurd e (show ¬ (4 : Nat) = 7 by decide)⟩
  · rw [e1, List.length_map, List.length_range]; omega
  · unfold ptA
    rw [e1] at hk ⊢
    rw [List.getD_eq_getElem?_getD, List.getElem?_eq_getElem hk, List.getElem_map]
    exact pfN_lt
end TKF
section CASR
variable {S T U S8 : cS} {ρ ρ' : Nat → Nat} {M Am Fm Gm : List Nat} {v v' : Nat → Int32} {f f' : Nat → Nat → Int32} {g g' : Nat → Nat → Int64} {dp x out k cd dd L : Nat} {x4 : Int32} {xs : Nat → Int32} {R : Int32 → Nat → Nat → cS → (Nat → Int32) → (Nat → Nat → Int32) → (Nat → Nat → Int64) → Prop}
variable {n : Nat} {P : Nat → Nat} {ks : Nat} {A : Nat → Int64} {yn : Nat} {F G : Nat → Int64} {ad : Bool} {c0 c1 n0 : Nat} {P0 : Nat → Nat} {n1 : Nat} {P1 : Nat → Nat} {WL : List Int64} {mc ms : Nat}
variable {so : Nat → Nat} {sd : Nat → List Nat} {sg : Nat → List Dc} {made : Nat} {B : List Dc} {ix : Vw} {mg : Option (Vw × Nat)} {cm pr : Option Vw} {sn : List (Nat × Vw)} {op fi w : Nat} {cc : Option Nat} {off : Bool} {dn : Nat} {hd : Nat → Nat → Nat} {sl : Nat → Option (Nat × Vw)} {m : Nat} {nd : Nat → Nd} {qs : List (Nat × (Nat → Nd))} {w0 w1 : Nat} {H : List (Nat × Nat)} {sk tk : Nat} {CL : List (Nat × Nat × Nat)} {u : Nat} {RR : List (Nat × Nat)}
variable {n' : Nat} {P' : Nat → Nat} {m' : Nat} {nd' : Nat → Nd} {qs' : List (Nat × (Nat → Nd))}
theorem rF_99w {t : Int32} : rF [99, 4, 77] [51] [3, 50] v f g (upd v 99 t) f g := rF_wk rF_99u (by decide) (by decide) (by decide)
theorem lc_34 (hI : Rel k S dp x out v f g cd dd) (hk : k < 512) (hx4 : x4 = nI (6 * k)) (hL : 6 * k + 6 ≤ L) (hL2 : L ≤ 3072) (hN : nxR R k dp x out x4) : lw_c34 R xs L dp x out x4 cd dd S v f g := by
  have vp1 := vp6 hx4 hL hL2 (show 1 < 6 by decide)
  unfold lw_c34
  obtain ⟨y1, ey1⟩ : ∃ y1, y1 = xs (x4 + nI 1).toNatClampNeg := ⟨_, rfl⟩
  rw [← ey1]
  have hx6 := Rel_x (t := nI 1) (mc := 1) (ms := 6) (by decide) (by decide) hI
  have bd := Rel_bd (by omega) hx6
  have bd0 := Rel_bd (by omega) hI
  obtain ⟨ρ, WL, n, P, ks, A, yn, F, G, ad, c0, c1, n0, P0, n1, P1, hl, hr⟩ := id hI
  obtain ⟨o, so, sd, sg, made, B, ix, mg, cm, pr, sn, op, fi, w, cc, off, dn, hd, sl, m, nd, qs, w0, w1, H, sk, tk, CL, u, RR, ⟨a1, a2⟩, ⟨a3, a4⟩, ⟨a5, a6⟩, a7, a8, a9, b1, b2, b3, b7, b8⟩ := id hr
  obtain ⟨⟨i98, i97, i96, i39, i48⟩, iB, iS, iX, iM, iC, iP, iK, iZ, iW⟩ := id a7
  obtain ⟨⟨p1, p2, p3, p4, p5⟩, p6, p7, ⟨p8, p8b, p8c, p8d⟩, p9, p10, p11, p12, p13, p14⟩ := id b1
  have hlg := rL_lg hl.2.1
  obtain ⟨hpw, ⟨w2, n40, wP⟩, -⟩ := id hl.2.1
  have hdp : dpO dp S := a1.1.2.2
  obtain ⟨ps8, pm48, m47⟩ := pQ_m b2
  have l24 : (lfI nd m).length ≤ 24 := b2.2.2.2.1
  have hx61 := Rel_x (t := nI 1) (mc := 240) (ms := 2200) (by decide) (by decide) hI
  have bd2 := Rel_bd (by omega) hx61
  refine ⟨vp1, 240, 2200, bd2, ?_⟩
  unfold kw_L_term
  by_cases hy1 : ∃ fl, fl < 2 ∧ y1 = nI fl
  · obtain ⟨fl, hfl, rfl⟩ := hy1
    by_cases hc : (tk0 ks A F G P n).length = 1 ∧ (qsS nd m).1 < 8 ∧ (lfI nd m).length < 24
    · refine ⟨hl.1.1, Or.inl ⟨240, 2200, by omega, by omega, g_term (P' := P) hl.1 a3 hfl hc.1 hc.2.1 hc.2.2 (m47 hc.2.2) n40 hdp (by omega) (by omega) (fun T ρ' fT gT gP xr => cls_out (by omega) (out_fr fT (by decide) o) (fun S8 f90 o8 j8 => ⟨vp1, bd2, ?_⟩))⟩⟩
      refine p_term hpw n40 w2 wP hlg a8.1 (fun c => m47 c) (by omega) (by omega) (fun w => absurd rfl (w fl hfl)) (fun fl' h1 e w => ?_) (fun fl' h1 e _ _ _ v' f' g' hF h99 h2 hL hP => ?_)
      · exfalso
        rw [tkP_0] at w; omega
      obtain rfl : fl = fl' := (nI_eq (by omega) (by omega)).mp e
      obtain ⟨d1, d2, d3⟩ := lf_tok (kd := 0) (f := fl) (s := 0) (b := false) (by decide) (tk0_ok (ks := ks) (A := A) (F := F) (G := G) (P := P) n40) (by omega) (fun _ => hc.1) (fun e => absurd e (by decide)) (by decide)
      have hrel : Rel (k + 1) S8 dp x out v' f' g' (cd + 240) (dd + 2200) := Rel_Ql hl o a1 a2 a4 a5 a6 a7 a8 a9 b1 b3 b7 b8 fT gT gP f90 o8 hF (by decide) (by decide) (by decide) h2 hL hP (pQ_lf b2 (by omega) (by omega) d1 hfl d2 d3) (by decide) (by decide)
      exact tl_ok bd2 h99 (out_X o8) j8 (hN _ _ _ _ _ _ hrel)
    · refine ⟨hl.1.1, Or.inr (Or.inr ⟨240, 2200, by omega, x_termS hl.1 a3 hfl (by omega) (by omega) (by omega) (by omega) (by omega) (fun T ρ' fT gT gP xr => ⟨by omega, vp1, bd2, ?_⟩)⟩)⟩
      exact p_term hpw n40 w2 wP hlg a8.1 (fun c => m47 c) (by omega) (by omega) (fun w => absurd rfl (w fl hfl)) (fun fl' h1 e w v' f' g' hF h99 => tl_x (by decide) bd2 h99 (hN _ _ _ _ _ _ (Rel_Qx hl hr fT gT hF (by decide) (by decide)))) (fun fl' h1 e q1 q2 q3 => absurd ⟨q1, q2, q3⟩ hc)
  · have hno : ∀ k, k < 2 → y1 ≠ nI k := fun k h1 h2 => hy1 ⟨k, h1, h2⟩
    refine ⟨hl.1.1, Or.inr (Or.inl ⟨240, 2200, by omega, x_termF hno (by omega) (by omega) ⟨by omega, vp1, bd2, ?_⟩⟩)⟩
    exact p_term hpw n40 w2 wP hlg a8.1 (fun c => m47 c) (by omega) (by omega) (fun _ v' f' g' hF h99 => tl_x (by decide) bd2 h99 (hN _ _ _ _ _ _ (Rel_Q0 hl hr hF (by decide) (by decide)))) (fun fl' h1 e => absurd e (hno fl' h1)) (fun fl' h1 e => absurd e (hno fl' h1))
theorem lc_35 (hI : Rel k S dp x out v f g cd dd) (hk : k < 512) (hx4 : x4 = nI (6 * k)) (hL : 6 * k + 6 ≤ L) (hL2 : L ≤ 3072) (hN : nxR R k dp x out x4) : lw_c35 R xs L dp x out x4 cd dd S v f g := by
  have vp1 := vp6 hx4 hL hL2 (show 1 < 6 by decide)
  have vp2 := vp6 hx4 hL hL2 (show 2 < 6 by decide)
  unfold lw_c35
  obtain ⟨y1, ey1⟩ : ∃ y1, y1 = xs (x4 + nI 1).toNatClampNeg := ⟨_, rfl⟩
  rw [← ey1]
  obtain ⟨y2, ey2⟩ : ∃ y2, y2 = xs (x4 + nI 2).toNatClampNeg := ⟨_, rfl⟩
  rw [← ey2]
  have hx6 := Rel_x (t := nI 1) (mc := 1) (ms := 6) (by decide) (by decide) hI
  have bd := Rel_bd (by omega) hx6
  have bd0 := Rel_bd (by omega) hI
  obtain ⟨ρ, WL, n, P, ks, A, yn, F, G, ad, c0, c1, n0, P0, n1, P1, hl, hr⟩ := id hI
  obtain ⟨o, so, sd, sg, made, B, ix, mg, cm, pr, sn, op, fi, w, cc, off, dn, hd, sl, m, nd, qs, w0, w1, H, sk, tk, CL, u, RR, ⟨a1, a2⟩, ⟨a3, a4⟩, ⟨a5, a6⟩, a7, a8, a9, b1, b2, b3, b7, b8⟩ := id hr
  obtain ⟨⟨i98, i97, i96, i39, i48⟩, iB, iS, iX, iM, iC, iP, iK, iZ, iW⟩ := id a7
  obtain ⟨⟨p1, p2, p3, p4, p5⟩, p6, p7, ⟨p8, p8b, p8c, p8d⟩, p9, p10, p11, p12, p13, p14⟩ := id b1
  have hlg := rL_lg hl.2.1
  obtain ⟨hpw, ⟨w2, n40, wP⟩, -⟩ := id hl.2.1
  have hdp : dpO dp S := a1.1.2.2
  obtain ⟨ps8, pm48, m47⟩ := pQ_m b2
  have l24 : (lfI nd m).length ≤ 24 := b2.2.2.2.1
  have hx61 := Rel_x (t := nI 1) (mc := 240) (ms := 2200) (by decide) (by decide) hI
  have bd2 := Rel_bd (by omega) hx61
  refine ⟨vp1, vp2, 240, 2200, bd2, ?_⟩
  unfold kw_L_phrase
  by_cases hy1 : ∃ fl, fl < 2 ∧ y1 = nI fl
  · obtain ⟨fl, hfl, rfl⟩ := hy1
    by_cases hy2 : ∃ s, 0 ≤ s ∧ s ≤ 20 ∧ y2 = nI s
    · obtain ⟨s, hs1, hs2, rfl⟩ := hy2
      by_cases hc : (1 ≤ (tk0 ks A F G P n).length ∧ (tk0 ks A F G P n).length ≤ 6) ∧ (qsS nd m).1 < 8 ∧ (lfI nd m).length < 24
      · refine ⟨hl.1.1, Or.inl ⟨240, 2200, by omega, by omega, g_phrase (P' := P) hl.1 a3 hfl hs2 hc.1 hc.2.1 hc.2.2 (m47 hc.2.2) n40 hdp (by omega) (by omega) (fun T ρ' fT gT gP xr => cls_out (by omega) (out_fr fT (by decide) o) (fun S8 f90 o8 j8 => ⟨vp1, vp2, bd2, ?_⟩))⟩⟩
        refine p_phrase hpw n40 w2 wP hlg a8.1 (fun c => m47 c) (by omega) (by omega) (fun w => absurd rfl (w fl hfl)) (fun fl' e1 _ w => absurd rfl (w s (by omega) (by omega))) (fun fl' s' h1 e g1 g2 es w => ?_) (fun fl' s' h1 e g1 g2 es _ _ _ v' f' g' hF h99 h2 hL hP => ?_)
        · exfalso
          rw [tkP_0] at w; omega
        obtain rfl : fl = fl' := (nI_eq (by omega) (by omega)).mp e
        obtain rfl : s = s' := (nI_eq (by omega) (by omega)).mp es
        obtain ⟨d1, d2, d3⟩ := lf_tok (kd := 1) (f := fl) (s := s) (b := false) (by decide) (tk0_ok (ks := ks) (A := A) (F := F) (G := G) (P := P) n40) hc.1 (fun e => absurd e (by decide)) (fun e => absurd e (by decide)) hs2
        have hrel : Rel (k + 1) S8 dp x out v' f' g' (cd + 240) (dd + 2200) := Rel_Ql hl o a1 a2 a4 a5 a6 a7 a8 a9 b1 b3 b7 b8 fT gT gP f90 o8 hF (by decide) (by decide) (by decide) h2 hL hP (pQ_lf b2 (by omega) (by omega) d1 hfl d2 d3) (by decide) (by decide)
        exact tl_ok bd2 h99 (out_X o8) j8 (hN _ _ _ _ _ _ hrel)
      · refine ⟨hl.1.1, Or.inr (Or.inr (Or.inr ⟨240, 2200, by omega, x_phraseS hl.1 a3 hfl (by omega) (by omega) hs2 (by omega) (by omega) (by omega) (fun T ρ' fT gT gP xr => ⟨by omega, vp1, vp2, bd2, ?_⟩)⟩))⟩
        exact p_phrase hpw n40 w2 wP hlg a8.1 (fun c => m47 c) (by omega) (by omega) (fun w => absurd rfl (w fl hfl)) (fun fl' e1 _ w => absurd rfl (w s (by omega) (by omega))) (fun fl' s' h1 e g1 g2 es w v' f' g' hF h99 => tl_x (by decide) bd2 h99 (hN _ _ _ _ _ _ (Rel_Qx hl hr fT gT hF (by decide) (by decide)))) (fun fl' s' h1 e g1 g2 es q1 q2 q3 => absurd ⟨q1, q2, q3⟩ hc)
    · have hno : ∀ k, 0 ≤ k → k ≤ 20 → y2 ≠ nI k := fun k h1 h2 h3 => hy2 ⟨k, h1, h2, h3⟩
      refine ⟨hl.1.1, Or.inr (Or.inr (Or.inl ⟨240, 2200, by omega, x_phraseA hfl (fun k h => hno k (Nat.zero_le _) h) (by omega) (by omega) ⟨by omega, vp1, vp2, bd2, ?_⟩⟩))⟩
      exact p_phrase hpw n40 w2 wP hlg a8.1 (fun c => m47 c) (by omega) (by omega) (fun w => absurd rfl (w fl hfl)) (fun fl' e1 _ w v' f' g' hF h99 => tl_x (by decide) bd2 h99 (hN _ _ _ _ _ _ (Rel_Q0 hl hr hF (by decide) (by decide)))) (fun fl' s' h1 e g1 g2 es => absurd es (hno s' g1 g2)) (fun fl' s' h1 e g1 g2 es => absurd es (hno s' g1 g2))
  · have hno : ∀ k, k < 2 → y1 ≠ nI k := fun k h1 h2 => hy1 ⟨k, h1, h2⟩
    refine ⟨hl.1.1, Or.inr (Or.inl ⟨240, 2200, by omega, x_phraseF hno (by omega) (by omega) ⟨by omega, vp1, vp2, bd2, ?_⟩⟩)⟩
    exact p_phrase hpw n40 w2 wP hlg a8.1 (fun c => m47 c) (by omega) (by omega) (fun _ v' f' g' hF h99 => tl_x (by decide) bd2 h99 (hN _ _ _ _ _ _ (Rel_Q0 hl hr hF (by decide) (by decide)))) (fun fl' h1 e => absurd e (hno fl' h1)) (fun fl' s' h1 e => absurd e (hno fl' h1)) (fun fl' s' h1 e => absurd e (hno fl' h1))
theorem near_b {b : Bool} {Q : Int32 → cS → Prop} {y1 y2 : Int32} (hI : Rel k S dp x out v f g cd dd) (hk : k < 512) (hN : nxR R k dp x out x4) (hQ : ∀ r_1 S_1, ((cd + 240 ≤ 601024 ∧ dd + 2200 ≤ 7293033) ∧ r_near (fun r_4 v_4 f_4 g_4 => (cd + 240 ≤ 601024 ∧ dd + 2200 ≤ 7293033) ∧ r_thrown (fun r_5 v_5 f_5 g_5 => r_5 = r_1 ∧ ((¬ r_1 = 0 → lw_tail R x4 (cd + 240) (dd + 2200) S_1 v_5 f_5 g_5) ∧ (r_1 = 0 → cX S_1 out 15 (nI 0) ∧ (cJ S_1 out (nI 0).toNatClampNeg = r_4.toInt64 ∧ lw_tail R x4 (cd + 240) (dd + 2200) S_1 v_5 f_5 g_5)))) v_4 f_4 g_4) y1 y2 (bI b) v f g) → Q r_1 S_1) : (cd + 240 ≤ 601024 ∧ dd + 2200 ≤ 7293033) ∧ kw_L_near Q dp 240 2200 x y1 y2 (bI b) out S := by
  obtain ⟨ρ, WL, n, P, ks, A, yn, F, G, ad, c0, c1, n0, P0, n1, P1, hl, hr⟩ := id hI
  obtain ⟨o, so, sd, sg, made, B, ix, mg, cm, pr, sn, op, fi, w, cc, off, dn, hd, sl, m, nd, qs, w0, w1, H, sk, tk, CL, u, RR, ⟨a1, a2⟩, ⟨a3, a4⟩, ⟨a5, a6⟩, a7, a8, a9, b1, b2, b3, b7, b8⟩ := id hr
  obtain ⟨⟨i98, i97, i96, i39, i48⟩, iB, iS, iX, iM, iC, iP, iK, iZ, iW⟩ := id a7
  obtain ⟨⟨p1, p2, p3, p4, p5⟩, p6, p7, ⟨p8, p8b, p8c, p8d⟩, p9, p10, p11, p12, p13, p14⟩ := id b1
  have hlg := rL_lg hl.2.1
  obtain ⟨hpw, ⟨w2, n40, wP⟩, -⟩ := id hl.2.1
  have hdp : dpO dp S := a1.1.2.2
  obtain ⟨ps8, pm48, m47⟩ := pQ_m b2
  have l24 : (lfI nd m).length ≤ 24 := b2.2.2.2.1
  have hx61 := Rel_x (t := nI 1) (mc := 240) (ms := 2200) (by decide) (by decide) hI
  have bd2 := Rel_bd (by omega) hx61
  refine ⟨bd2, ?_⟩
  unfold kw_L_near
  by_cases hy1 : ∃ fl, fl < 2 ∧ y1 = nI fl
  · obtain ⟨fl, hfl, rfl⟩ := hy1
    by_cases hy2 : ∃ s, 1 ≤ s ∧ s ≤ 20 ∧ y2 = nI s
    · obtain ⟨s, hs1, hs2, rfl⟩ := hy2
      by_cases hc : (tk0 ks A F G P n).length = 2 ∧ (qsS nd m).1 < 8 ∧ (lfI nd m).length < 24
      · refine ⟨hl.1.1, Or.inl ⟨240, 2200, by omega, by omega, g_near (P' := P) (b := b) hl.1 a3 hfl ⟨hs1, hs2⟩ hc.1 hc.2.1 hc.2.2 (m47 hc.2.2) n40 hdp (by omega) (by omega) (fun T ρ' fT gT gP xr => cls_out (by omega) (out_fr fT (by decide) o) (fun S8 f90 o8 j8 => hQ _ _ ⟨bd2, ?_⟩))⟩⟩
        refine p_near (b := b) hpw n40 w2 wP hlg a8.1 (fun c => m47 c) (by omega) (by omega) (fun w => absurd rfl (w fl hfl)) (fun fl' e1 _ w => absurd rfl (w s (by omega) (by omega))) (fun fl' s' h1 e g1 g2 es w => ?_) (fun fl' s' h1 e g1 g2 es _ _ _ v' f' g' hF h99 h2 hL hP => ?_)
        · exfalso
          rw [tkP_0] at w; omega
        obtain rfl : fl = fl' := (nI_eq (by omega) (by omega)).mp e
        obtain rfl : s = s' := (nI_eq (by omega) (by omega)).mp es
        obtain ⟨d1, d2, d3⟩ := lf_tok (kd := 2) (f := fl) (s := s) (b := b) (by decide) (tk0_ok (ks := ks) (A := A) (F := F) (G := G) (P := P) n40) (by omega) (fun e => absurd e (by decide)) (fun _ => hc.1) hs2
        have hrel : Rel (k + 1) S8 dp x out v' f' g' (cd + 240) (dd + 2200) := Rel_Ql hl o a1 a2 a4 a5 a6 a7 a8 a9 b1 b3 b7 b8 fT gT gP f90 o8 hF (by decide) (by decide) (by decide) h2 hL hP (pQ_lf b2 (by omega) (by omega) d1 hfl d2 d3) (by decide) (by decide)
        exact tl_ok bd2 h99 (out_X o8) j8 (hN _ _ _ _ _ _ hrel)
      · refine ⟨hl.1.1, Or.inr (Or.inr (Or.inr ⟨240, 2200, by omega, x_nearS hl.1 a3 hfl (by omega) (by omega) ⟨hs1, hs2⟩ (by omega) (by omega) (by omega) (fun T ρ' fT gT gP xr => ⟨by omega, hQ _ _ ⟨bd2, ?_⟩⟩)⟩))⟩
        exact p_near (b := b) hpw n40 w2 wP hlg a8.1 (fun c => m47 c) (by omega) (by omega) (fun w => absurd rfl (w fl hfl)) (fun fl' e1 _ w => absurd rfl (w s (by omega) (by omega))) (fun fl' s' h1 e g1 g2 es w v' f' g' hF h99 => tl_x (by decide) bd2 h99 (hN _ _ _ _ _ _ (Rel_Qx hl hr fT gT hF (by decide) (by decide)))) (fun fl' s' h1 e g1 g2 es q1 q2 q3 => absurd ⟨q1, q2, q3⟩ hc)
    · have hno : ∀ k, 1 ≤ k → k ≤ 20 → y2 ≠ nI k := fun k h1 h2 h3 => hy2 ⟨k, h1, h2, h3⟩
      refine ⟨hl.1.1, Or.inr (Or.inr (Or.inl ⟨240, 2200, by omega, x_nearA hfl hno (by omega) (by omega) ⟨by omega, hQ _ _ ⟨bd2, ?_⟩⟩⟩))⟩
      exact p_near (b := b) hpw n40 w2 wP hlg a8.1 (fun c => m47 c) (by omega) (by omega) (fun w => absurd rfl (w fl hfl)) (fun fl' e1 _ w v' f' g' hF h99 => tl_x (by decide) bd2 h99 (hN _ _ _ _ _ _ (Rel_Q0 hl hr hF (by decide) (by decide)))) (fun fl' s' h1 e g1 g2 es => absurd es (hno s' g1 g2)) (fun fl' s' h1 e g1 g2 es => absurd es (hno s' g1 g2))
  · have hno : ∀ k, k < 2 → y1 ≠ nI k := fun k h1 h2 => hy1 ⟨k, h1, h2⟩
    refine ⟨hl.1.1, Or.inr (Or.inl ⟨240, 2200, by omega, x_nearF hno (by omega) (by omega) ⟨by omega, hQ _ _ ⟨bd2, ?_⟩⟩⟩)⟩
    exact p_near (b := b) hpw n40 w2 wP hlg a8.1 (fun c => m47 c) (by omega) (by omega) (fun _ v' f' g' hF h99 => tl_x (by decide) bd2 h99 (hN _ _ _ _ _ _ (Rel_Q0 hl hr hF (by decide) (by decide)))) (fun fl' h1 e => absurd e (hno fl' h1)) (fun fl' s' h1 e => absurd e (hno fl' h1)) (fun fl' s' h1 e => absurd e (hno fl' h1))
theorem lc_36 (hI : Rel k S dp x out v f g cd dd) (hk : k < 512) (hx4 : x4 = nI (6 * k)) (hL : 6 * k + 6 ≤ L) (hL2 : L ≤ 3072) (hN : nxR R k dp x out x4) : lw_c36 R xs L dp x out x4 cd dd S v f g := by
  have vp1 := vp6 hx4 hL hL2 (show 1 < 6 by decide)
  have vp2 := vp6 hx4 hL hL2 (show 2 < 6 by decide)
  have vp3 := vp6 hx4 hL hL2 (show 3 < 6 by decide)
  unfold lw_c36
  obtain ⟨y1, ey1⟩ : ∃ y1, y1 = xs (x4 + nI 1).toNatClampNeg := ⟨_, rfl⟩
  rw [← ey1]
  obtain ⟨y2, ey2⟩ : ∃ y2, y2 = xs (x4 + nI 2).toNatClampNeg := ⟨_, rfl⟩
  rw [← ey2]
  obtain ⟨y3, ey3⟩ : ∃ y3, y3 = xs (x4 + nI 3).toNatClampNeg := ⟨_, rfl⟩
  rw [← ey3]
  have e0 : nI 0 = bI false := by decide
  have e1 : nI 1 = bI true := by decide
  refine ⟨vp1, vp2, vp3, fun z => ⟨240, 2200, ?_⟩, fun z => ⟨240, 2200, ?_⟩⟩
  · refine near_b (b := false) (y1 := y1) (y2 := y2) hI hk hN ?_
    intro r_1 S_1 h
    exact ⟨vp1, vp2, vp3, fun _ => h, fun c => absurd z c⟩
  · refine near_b (b := true) (y1 := y1) (y2 := y2) hI hk hN ?_
    intro r_1 S_1 h
    exact ⟨vp1, vp2, vp3, fun c => absurd c z, fun _ => h⟩
theorem lc_37 (hI : Rel k S dp x out v f g cd dd) (hk : k < 512) (hx4 : x4 = nI (6 * k)) (hL : 6 * k + 6 ≤ L) (hL2 : L ≤ 3072) (hN : nxR R k dp x out x4) : lw_c37 R xs L dp x out x4 cd dd S v f g := by
  have vp1 := vp6 hx4 hL hL2 (show 1 < 6 by decide)
  unfold lw_c37
  obtain ⟨y1, ey1⟩ : ∃ y1, y1 = xs (x4 + nI 1).toNatClampNeg := ⟨_, rfl⟩
  rw [← ey1]
  have hx6 := Rel_x (t := nI 1) (mc := 1) (ms := 6) (by decide) (by decide) hI
  have bd := Rel_bd (by omega) hx6
  have bd0 := Rel_bd (by omega) hI
  obtain ⟨ρ, WL, n, P, ks, A, yn, F, G, ad, c0, c1, n0, P0, n1, P1, hl, hr⟩ := id hI
  obtain ⟨o, so, sd, sg, made, B, ix, mg, cm, pr, sn, op, fi, w, cc, off, dn, hd, sl, m, nd, qs, w0, w1, H, sk, tk, CL, u, RR, ⟨a1, a2⟩, ⟨a3, a4⟩, ⟨a5, a6⟩, a7, a8, a9, b1, b2, b3, b7, b8⟩ := id hr
  obtain ⟨⟨i98, i97, i96, i39, i48⟩, iB, iS, iX, iM, iC, iP, iK, iZ, iW⟩ := id a7
  obtain ⟨⟨p1, p2, p3, p4, p5⟩, p6, p7, ⟨p8, p8b, p8c, p8d⟩, p9, p10, p11, p12, p13, p14⟩ := id b1
  have hlg := rL_lg hl.2.1
  obtain ⟨hpw, ⟨w2, n40, wP⟩, -⟩ := id hl.2.1
  have hdp : dpO dp S := a1.1.2.2
  obtain ⟨ps8, pm48, m47⟩ := pQ_m b2
  have l24 : (lfI nd m).length ≤ 24 := b2.2.2.2.1
  have hx61 := Rel_x (t := nI 1) (mc := 240) (ms := 2200) (by decide) (by decide) hI
  have bd2 := Rel_bd (by omega) hx61
  refine ⟨vp1, 240, 2200, bd2, ?_⟩
  unfold kw_L_prefix
  by_cases hy1 : ∃ fl, fl < 2 ∧ y1 = nI fl
  · obtain ⟨fl, hfl, rfl⟩ := hy1
    by_cases hc : wdC P n = 1 ∧ (qsS nd m).1 < 8 ∧ (lfI nd m).length < 24
    · refine ⟨hl.1.1, Or.inl ⟨240, 2200, by omega, by omega, g_prefix (P' := P) hl.1 a3 hfl hc.1 hc.2.1 hc.2.2 (m47 hc.2.2) hdp (by omega) (by omega) (fun T ρ' fT gT gP xr => cls_out (by omega) (out_fr fT (by decide) o) (fun S8 f90 o8 j8 => ⟨vp1, bd2, ?_⟩))⟩⟩
      refine p_prefix hpw n40 w2 wP hlg a8.1 (fun c => m47 c) (by omega) (by omega) (fun w => absurd rfl (w fl hfl)) (fun fl' h1 e w => ?_) (fun fl' h1 e _ _ _ v' f' g' hF h99 h2 hL hP => ?_)
      · exfalso
        omega
      obtain rfl : fl = fl' := (nI_eq (by omega) (by omega)).mp e
      obtain ⟨d1, d2, d3⟩ := lf_word (kd := 3) (f := fl) (s := 0) (w := wdW P n 0) (Or.inl rfl) (by decide) (wdW_lt P n 0)
      have hrel : Rel (k + 1) S8 dp x out v' f' g' (cd + 240) (dd + 2200) := Rel_Ql hl o a1 a2 a4 a5 a6 a7 a8 a9 b1 b3 b7 b8 fT gT gP f90 o8 hF (by decide) (by decide) (by decide) h2 hL hP (pQ_lf b2 (by omega) (by omega) d1 hfl d2 d3) (by decide) (by decide)
      exact tl_ok bd2 h99 (out_X o8) j8 (hN _ _ _ _ _ _ hrel)
    · refine ⟨hl.1.1, Or.inr (Or.inr ⟨240, 2200, by omega, x_prefixS hl.1 a3 hfl (by omega) (by omega) (by omega) (by omega) (by omega) (fun T ρ' fT gT gP xr => ⟨by omega, vp1, bd2, ?_⟩)⟩)⟩
      exact p_prefix hpw n40 w2 wP hlg a8.1 (fun c => m47 c) (by omega) (by omega) (fun w => absurd rfl (w fl hfl)) (fun fl' h1 e w v' f' g' hF h99 => tl_x (by decide) bd2 h99 (hN _ _ _ _ _ _ (Rel_Qx hl hr fT gT hF (by decide) (by decide)))) (fun fl' h1 e q1 q2 q3 => absurd ⟨q1, q2, q3⟩ hc)
  · have hno : ∀ k, k < 2 → y1 ≠ nI k := fun k h1 h2 => hy1 ⟨k, h1, h2⟩
    refine ⟨hl.1.1, Or.inr (Or.inl ⟨240, 2200, by omega, x_prefixF hno (by omega) (by omega) ⟨by omega, vp1, bd2, ?_⟩⟩)⟩
    exact p_prefix hpw n40 w2 wP hlg a8.1 (fun c => m47 c) (by omega) (by omega) (fun _ v' f' g' hF h99 => tl_x (by decide) bd2 h99 (hN _ _ _ _ _ _ (Rel_Q0 hl hr hF (by decide) (by decide)))) (fun fl' h1 e => absurd e (hno fl' h1)) (fun fl' h1 e => absurd e (hno fl' h1))
theorem lc_38 (hI : Rel k S dp x out v f g cd dd) (hk : k < 512) (hx4 : x4 = nI (6 * k)) (hL : 6 * k + 6 ≤ L) (hL2 : L ≤ 3072) (hN : nxR R k dp x out x4) : lw_c38 R xs L dp x out x4 cd dd S v f g := by
  have vp1 := vp6 hx4 hL hL2 (show 1 < 6 by decide)
  unfold lw_c38
  obtain ⟨y1, ey1⟩ : ∃ y1, y1 = xs (x4 + nI 1).toNatClampNeg := ⟨_, rfl⟩
  rw [← ey1]
  have hx6 := Rel_x (t := nI 1) (mc := 1) (ms := 6) (by decide) (by decide) hI
  have bd := Rel_bd (by omega) hx6
  have bd0 := Rel_bd (by omega) hI
  obtain ⟨ρ, WL, n, P, ks, A, yn, F, G, ad, c0, c1, n0, P0, n1, P1, hl, hr⟩ := id hI
  obtain ⟨o, so, sd, sg, made, B, ix, mg, cm, pr, sn, op, fi, w, cc, off, dn, hd, sl, m, nd, qs, w0, w1, H, sk, tk, CL, u, RR, ⟨a1, a2⟩, ⟨a3, a4⟩, ⟨a5, a6⟩, a7, a8, a9, b1, b2, b3, b7, b8⟩ := id hr
  obtain ⟨⟨i98, i97, i96, i39, i48⟩, iB, iS, iX, iM, iC, iP, iK, iZ, iW⟩ := id a7
  obtain ⟨⟨p1, p2, p3, p4, p5⟩, p6, p7, ⟨p8, p8b, p8c, p8d⟩, p9, p10, p11, p12, p13, p14⟩ := id b1
  have hlg := rL_lg hl.2.1
  obtain ⟨hpw, ⟨w2, n40, wP⟩, -⟩ := id hl.2.1
  have hdp : dpO dp S := a1.1.2.2
  obtain ⟨ps8, pm48, m47⟩ := pQ_m b2
  have l24 : (lfI nd m).length ≤ 24 := b2.2.2.2.1
  have hx61 := Rel_x (t := nI 1) (mc := 240) (ms := 2200) (by decide) (by decide) hI
  have bd2 := Rel_bd (by omega) hx61
  refine ⟨vp1, 240, 2200, bd2, ?_⟩
  unfold kw_L_wild
  by_cases hy1 : ∃ fl, fl < 2 ∧ y1 = nI fl
  · obtain ⟨fl, hfl, rfl⟩ := hy1
    by_cases hc : (1 ≤ n ∧ n ≤ 12) ∧ allB (fun k => decide (0 < pfN (P k))) n = true ∧ (qsS nd m).1 < 8 ∧ (lfI nd m).length < 24
    · refine ⟨hl.1.1, Or.inl ⟨240, 2200, by omega, by omega, g_wild (P' := P) hl.1 a3 hfl hc.1 hc.2.1 hc.2.2.1 hc.2.2.2 (m47 hc.2.2.2) hdp (by omega) (by omega) (fun T ρ' fT gT gP xr => cls_out (by omega) (out_fr fT (by decide) o) (fun S8 f90 o8 j8 => ⟨vp1, bd2, ?_⟩))⟩⟩
      refine p_wild hpw n40 w2 wP a8.1 (fun c => m47 c) (by omega) (by omega) (fun w => absurd rfl (w fl hfl)) (fun fl' h1 e w => ?_) (fun fl' h1 e _ _ _ _ v' f' g' hF h99 h2 hL hP => ?_)
      · exfalso
        rcases w with w | w | w | w
        · omega
        · rw [hc.2.1] at w; exact absurd w (by decide)
        · omega
        · omega
      obtain rfl : fl = fl' := (nI_eq (by omega) (by omega)).mp e
      obtain ⟨d1, d2, d3⟩ := lf_wild (P := P) (n := n) (f := fl) hc.1.2
      have hrel : Rel (k + 1) S8 dp x out v' f' g' (cd + 240) (dd + 2200) := Rel_Ql hl o a1 a2 a4 a5 a6 a7 a8 a9 b1 b3 b7 b8 fT gT gP f90 o8 hF (by decide) (by decide) (by decide) h2 hL hP (pQ_lf b2 (by omega) (by omega) d1 hfl d2 d3) (by decide) (by decide)
      exact tl_ok bd2 h99 (out_X o8) j8 (hN _ _ _ _ _ _ hrel)
    · have wc : (¬ (1 ≤ n ∧ n ≤ 12) ∨ allB (fun k => decide (0 < pfN (P k))) n = false) ∨ 8 ≤ (qsS nd m).1 ∨ 24 ≤ (lfI nd m).length := by
        cases e : allB (fun k => decide (0 < pfN (P k))) n with
        | false => exact Or.inl (Or.inr rfl)
        | true =>
          have hc2 : ¬ ((1 ≤ n ∧ n ≤ 12) ∧ (qsS nd m).1 < 8 ∧ (lfI nd m).length < 24) := fun c => hc ⟨c.1, e, c.2⟩
          omega
      refine ⟨hl.1.1, Or.inr (Or.inr ⟨240, 2200, by omega, x_wildS hl.1 a3 hfl (by omega) (by omega) wc (by omega) (by omega) (fun T ρ' fT gT gP xr => ⟨by omega, vp1, bd2, ?_⟩)⟩)⟩
      exact p_wild hpw n40 w2 wP a8.1 (fun c => m47 c) (by omega) (by omega) (fun w => absurd rfl (w fl hfl)) (fun fl' h1 e w  => tl_x (by decide) bd2 upd_at (hN _ _ _ _ _ _ (Rel_Qx hl hr fT gT rF_99w (by decide) (by decide)))) (fun fl' h1 e q0 q1 q2 q3 => absurd ⟨q0, q1, q2, q3⟩ hc)
  · have hno : ∀ k, k < 2 → y1 ≠ nI k := fun k h1 h2 => hy1 ⟨k, h1, h2⟩
    refine ⟨hl.1.1, Or.inr (Or.inl ⟨240, 2200, by omega, x_wildF hno (by omega) (by omega) ⟨by omega, vp1, bd2, ?_⟩⟩)⟩
    exact p_wild hpw n40 w2 wP a8.1 (fun c => m47 c) (by omega) (by omega) (fun _ => tl_x (by decide) bd2 upd_at (hN _ _ _ _ _ _ (Rel_Q0 hl hr rF_99w (by decide) (by decide)))) (fun fl' h1 e => absurd e (hno fl' h1)) (fun fl' h1 e => absurd e (hno fl' h1))
theorem lc_39 (hI : Rel k S dp x out v f g cd dd) (hk : k < 512) (hx4 : x4 = nI (6 * k)) (hL : 6 * k + 6 ≤ L) (hL2 : L ≤ 3072) (hN : nxR R k dp x out x4) : lw_c39 R xs L dp x out x4 cd dd S v f g := by
  have vp1 := vp6 hx4 hL hL2 (show 1 < 6 by decide)
  have vp2 := vp6 hx4 hL hL2 (show 2 < 6 by decide)
  unfold lw_c39
  obtain ⟨y1, ey1⟩ : ∃ y1, y1 = xs (x4 + nI 1).toNatClampNeg := ⟨_, rfl⟩
  rw [← ey1]
  obtain ⟨y2, ey2⟩ : ∃ y2, y2 = xs (x4 + nI 2).toNatClampNeg := ⟨_, rfl⟩
  rw [← ey2]
  have hx6 := Rel_x (t := nI 1) (mc := 1) (ms := 6) (by decide) (by decide) hI
  have bd := Rel_bd (by omega) hx6
  have bd0 := Rel_bd (by omega) hI
  obtain ⟨ρ, WL, n, P, ks, A, yn, F, G, ad, c0, c1, n0, P0, n1, P1, hl, hr⟩ := id hI
  obtain ⟨o, so, sd, sg, made, B, ix, mg, cm, pr, sn, op, fi, w, cc, off, dn, hd, sl, m, nd, qs, w0, w1, H, sk, tk, CL, u, RR, ⟨a1, a2⟩, ⟨a3, a4⟩, ⟨a5, a6⟩, a7, a8, a9, b1, b2, b3, b7, b8⟩ := id hr
  obtain ⟨⟨i98, i97, i96, i39, i48⟩, iB, iS, iX, iM, iC, iP, iK, iZ, iW⟩ := id a7
  obtain ⟨⟨p1, p2, p3, p4, p5⟩, p6, p7, ⟨p8, p8b, p8c, p8d⟩, p9, p10, p11, p12, p13, p14⟩ := id b1
  have hlg := rL_lg hl.2.1
  obtain ⟨hpw, ⟨w2, n40, wP⟩, -⟩ := id hl.2.1
  have hdp : dpO dp S := a1.1.2.2
  obtain ⟨ps8, pm48, m47⟩ := pQ_m b2
  have l24 : (lfI nd m).length ≤ 24 := b2.2.2.2.1
  have hx61 := Rel_x (t := nI 1) (mc := 240) (ms := 2200) (by decide) (by decide) hI
  have bd2 := Rel_bd (by omega) hx61
  refine ⟨vp1, vp2, 240, 2200, bd2, ?_⟩
  unfold kw_L_fuzzy
  by_cases hy1 : ∃ fl, fl < 2 ∧ y1 = nI fl
  · obtain ⟨fl, hfl, rfl⟩ := hy1
    by_cases hy2 : ∃ s, 0 ≤ s ∧ s ≤ 2 ∧ y2 = nI s
    · obtain ⟨s, hs1, hs2, rfl⟩ := hy2
      by_cases hc : wdC P n = 1 ∧ (qsS nd m).1 < 8 ∧ (lfI nd m).length < 24
      · refine ⟨hl.1.1, Or.inl ⟨240, 2200, by omega, by omega, g_fuzzy (P' := P) hl.1 a3 hfl hs2 hc.1 hc.2.1 hc.2.2 (m47 hc.2.2) hdp (by omega) (by omega) (fun T ρ' fT gT gP xr => cls_out (by omega) (out_fr fT (by decide) o) (fun S8 f90 o8 j8 => ⟨vp1, vp2, bd2, ?_⟩))⟩⟩
        refine p_fuzzy hpw n40 w2 wP hlg a8.1 (fun c => m47 c) (by omega) (by omega) (fun w => absurd rfl (w fl hfl)) (fun fl' e1 _ w => absurd rfl (w s (by omega) (by omega))) (fun fl' s' h1 e g1 g2 es w => ?_) (fun fl' s' h1 e g1 g2 es _ _ _ v' f' g' hF h99 h2 hL hP => ?_)
        · exfalso
          omega
        obtain rfl : fl = fl' := (nI_eq (by omega) (by omega)).mp e
        obtain rfl : s = s' := (nI_eq (by omega) (by omega)).mp es
        obtain ⟨d1, d2, d3⟩ := lf_word (kd := 5) (f := fl) (s := s) (w := wdW P n 0) (Or.inr rfl) (by omega) (wdW_lt P n 0)
        have hrel : Rel (k + 1) S8 dp x out v' f' g' (cd + 240) (dd + 2200) := Rel_Ql hl o a1 a2 a4 a5 a6 a7 a8 a9 b1 b3 b7 b8 fT gT gP f90 o8 hF (by decide) (by decide) (by decide) h2 hL hP (pQ_lf b2 (by omega) (by omega) d1 hfl d2 d3) (by decide) (by decide)
        exact tl_ok bd2 h99 (out_X o8) j8 (hN _ _ _ _ _ _ hrel)
      · refine ⟨hl.1.1, Or.inr (Or.inr (Or.inr ⟨240, 2200, by omega, x_fuzzyS hl.1 a3 hfl (by omega) (by omega) hs2 (by omega) (by omega) (by omega) (fun T ρ' fT gT gP xr => ⟨by omega, vp1, vp2, bd2, ?_⟩)⟩))⟩
        exact p_fuzzy hpw n40 w2 wP hlg a8.1 (fun c => m47 c) (by omega) (by omega) (fun w => absurd rfl (w fl hfl)) (fun fl' e1 _ w => absurd rfl (w s (by omega) (by omega))) (fun fl' s' h1 e g1 g2 es w v' f' g' hF h99 => tl_x (by decide) bd2 h99 (hN _ _ _ _ _ _ (Rel_Qx hl hr fT gT hF (by decide) (by decide)))) (fun fl' s' h1 e g1 g2 es q1 q2 q3 => absurd ⟨q1, q2, q3⟩ hc)
    · have hno : ∀ k, 0 ≤ k → k ≤ 2 → y2 ≠ nI k := fun k h1 h2 h3 => hy2 ⟨k, h1, h2, h3⟩
      refine ⟨hl.1.1, Or.inr (Or.inr (Or.inl ⟨240, 2200, by omega, x_fuzzyA hfl (fun k h => hno k (Nat.zero_le _) h) (by omega) (by omega) ⟨by omega, vp1, vp2, bd2, ?_⟩⟩))⟩
      exact p_fuzzy hpw n40 w2 wP hlg a8.1 (fun c => m47 c) (by omega) (by omega) (fun w => absurd rfl (w fl hfl)) (fun fl' e1 _ w v' f' g' hF h99 => tl_x (by decide) bd2 h99 (hN _ _ _ _ _ _ (Rel_Q0 hl hr hF (by decide) (by decide)))) (fun fl' s' h1 e g1 g2 es => absurd es (hno s' g1 g2)) (fun fl' s' h1 e g1 g2 es => absurd es (hno s' g1 g2))
  · have hno : ∀ k, k < 2 → y1 ≠ nI k := fun k h1 h2 => hy1 ⟨k, h1, h2⟩
    refine ⟨hl.1.1, Or.inr (Or.inl ⟨240, 2200, by omega, x_fuzzyF hno (by omega) (by omega) ⟨by omega, vp1, vp2, bd2, ?_⟩⟩)⟩
    exact p_fuzzy hpw n40 w2 wP hlg a8.1 (fun c => m47 c) (by omega) (by omega) (fun _ v' f' g' hF h99 => tl_x (by decide) bd2 h99 (hN _ _ _ _ _ _ (Rel_Q0 hl hr hF (by decide) (by decide)))) (fun fl' h1 e => absurd e (hno fl' h1)) (fun fl' s' h1 e => absurd e (hno fl' h1)) (fun fl' s' h1 e => absurd e (hno fl' h1))
end CASR
