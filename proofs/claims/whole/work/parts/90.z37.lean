/-! both worlds together: giveUp, crashAt, drop -/
section CASG
variable {S T U S8 : cS} {v v' : Nat → Int32} {f f' : Nat → Nat → Int32} {g g' : Nat → Nat → Int64} {dp x out k cd dd L : Nat} {x4 : Int32} {xs : Nat → Int32} {R : Int32 → Nat → Nat → cS → (Nat → Int32) → (Nat → Nat → Int32) → (Nat → Nat → Int64) → Prop}
theorem lc_12 (hI : Rel k S dp x out v f g cd dd) (hk : k < 512) (hN : nxR R k dp x out x4) : lw_c12 R xs L dp x out x4 cd dd S v f g := by
  unfold lw_c12
  have hx6 := Rel_x (t := nI 1) (mc := 1) (ms := 6) (by decide) (by decide) hI
  have bd := Rel_bd (by omega) hx6
  have bd0 := Rel_bd (by omega) hI
  obtain ⟨ρ, WL, n, P, ks, A, yn, F, G, ad, c0, c1, n0, P0, n1, P1, hl, hr⟩ := id hI
  obtain ⟨o, so, sd, sg, made, B, ix, mg, cm, pr, sn, op, fi, w, cc, off, dn, hd, sl, m, nd, qs, w0, w1, H, sk, tk, CL, u, RR, ⟨a1, a2⟩, ⟨a3, a4⟩, ⟨a5, a6⟩, a7, a8, a9, b1, b2, b3, b7, b8⟩ := id hr
  obtain ⟨⟨i98, i97, i96, i39, i48⟩, iB, iS, iX, iM, iC, iP, iK, iZ, iW⟩ := id a7
  obtain ⟨⟨p1, p2, p3, p4, p5⟩, p6, p7, ⟨p8, p8b, p8c, p8d⟩, p9, p10, p11, p12, p13, p14⟩ := id b1
  refine ⟨1, 6, bd, ?_⟩
  unfold kw_L_giveUp
  by_cases hy : off = true ∨ mg = none
  · refine ⟨hl.1.1, Or.inr ⟨1, 6, by omega, x_giveUp a1 hy (by omega) (by omega) ⟨by omega, bd, ?_⟩⟩⟩
    refine p_giveUp i98 iM (fun _ => tl_x (by decide) bd upd_at (hN _ _ _ _ _ _ hx6)) (fun s c e1 e2 => ?_)
    rcases hy with hy | hy
    · rw [hy] at e1; exact absurd e1 (by decide)
    · rw [hy] at e2; exact absurd e2 (by simp)
  · have hoff : off = false := by
      cases off with
      | true => exact absurd (Or.inl rfl) hy
      | false => rfl
    subst hoff
    obtain ⟨⟨src, c⟩, rfl⟩ : ∃ sc, mg = some sc := by
      cases mg with
      | none => exact absurd (Or.inr rfl) hy
      | some sc => exact ⟨sc, rfl⟩
    refine ⟨hl.1.1, Or.inl ⟨by omega, g_giveUp a1 a2 (fun T eT gT => cls_out (by omega) (out_fr eT.1 (by decide) o) (fun S8 f90 o8 j8 => ⟨bd, ?_⟩))⟩⟩
    refine p_giveUp i98 iM (fun w => absurd w hy) (fun s c' _ e => ?_)
    obtain ⟨-, rfl⟩ := Prod.mk.inj (Option.some.inj e)
    obtain ⟨v', hv'⟩ : ∃ v', v' = upd (upd v 99 (nI 0)) 49 (bI false) := ⟨_, rfl⟩
    have hF : rF [99, 49] [] [] v f g v' f g := ⟨fun i hi => by rw [hv', upd_n (fun e => hi (by rw [e]; decide)), upd_n (fun e => hi (by rw [e]; decide))], fun _ _ => rfl, fun _ _ => rfl⟩
    rw [← hv']
    have hrel : Rel (k + 1) S8 dp x out v' f g (cd + 1) (dd + 6) := Rel_I (mg' := none) hl a3 a4 a5 a6 a8 a9 b2 b3 eT gT ⟨a2.1, fun w e => absurd e (by simp), a2.2.2.1, a2.2.2.2.1, a2.2.2.2.2⟩ f90 o8 hF (by decide) (by decide) (by decide) ⟨⟨by rw [hF.1 98 (by decide)]; exact i98, fun q => by rw [hF.1 97 (by decide)]; exact i97 q, by rw [hF.1 96 (by decide)]; exact i96, by rw [hF.1 39 (by decide)]; exact i39, by rw [hF.1 48 (by decide)]; exact i48⟩, rB_f hF (by decide) (by decide) (by decide) iB, rS_f hF (by decide) (by decide) (by decide) iS, rX_f hF (by decide) (by decide) iX, ⟨by rw [hv', upd_at]; rfl, fun s c e => absurd e (by simp)⟩, rC_f hF (by decide) (by decide) iC, rP_f hF (by decide) (by decide) iP, rK_f hF (by decide) iK, iZ, iW⟩ ⟨⟨p1, fun s c e => absurd e (by simp), p3, p4, p5⟩, p6, fun s c e => absurd e (by simp), ⟨p8, p8b, p8c, by omega⟩, fun w => absurd w (by decide), p10, p11, p12, p13, p14.1, by have := p14.2; first | omega | (simp only [mgC] at this ⊢; omega)⟩ (fun _ _ => rfl) (Nat.le_refl _) (by show cd + 1 + 610 * (B.length + 0) ≤ _; omega) (by show dd + 6 + 7000 * (B.length + 0) ≤ _; omega)
    exact tl_ok bd (by rw [hv', upd_n (by decide), upd_at]) (out_X o8) j8 (hN _ _ _ _ _ _ hrel)
theorem lc_16 (hI : Rel k S dp x out v f g cd dd) (hk : k < 512) (hx4 : x4 = nI (6 * k)) (hL : 6 * k + 6 ≤ L) (hL2 : L ≤ 3072) (hN : nxR R k dp x out x4) : lw_c16 R xs L dp x out x4 cd dd S v f g := by
  have vp1 := vp6 hx4 hL hL2 (show 1 < 6 by decide)
  unfold lw_c16
  obtain ⟨y1, ey1⟩ : ∃ y1, y1 = xs (x4 + nI 1).toNatClampNeg := ⟨_, rfl⟩
  rw [← ey1]
  have hx6 := Rel_x (t := nI 1) (mc := 1) (ms := 6) (by decide) (by decide) hI
  have bd := Rel_bd (by omega) hx6
  have bd0 := Rel_bd (by omega) hI
  obtain ⟨ρ, WL, n, P, ks, A, yn, F, G, ad, c0, c1, n0, P0, n1, P1, hl, hr⟩ := id hI
  obtain ⟨o, so, sd, sg, made, B, ix, mg, cm, pr, sn, op, fi, w, cc, off, dn, hd, sl, m, nd, qs, w0, w1, H, sk, tk, CL, u, RR, ⟨a1, a2⟩, ⟨a3, a4⟩, ⟨a5, a6⟩, a7, a8, a9, b1, b2, b3, b7, b8⟩ := id hr
  obtain ⟨⟨i98, i97, i96, i39, i48⟩, iB, iS, iX, iM, iC, iP, iK, iZ, iW⟩ := id a7
  obtain ⟨⟨p1, p2, p3, p4, p5⟩, p6, p7, ⟨p8, p8b, p8c, p8d⟩, p9, p10, p11, p12, p13, p14⟩ := id b1
  have hx62 := Rel_x (t := nI 2) (mc := 1) (ms := 6) (by decide) (by decide) hI
  refine ⟨vp1, 1, 6, bd, ?_⟩
  unfold kw_L_crashAt
  by_cases hy : ∃ a, a ≤ 1000 ∧ y1 = nI a
  · obtain ⟨a, ha, rfl⟩ := hy
    have hin : inB (nI a) (nI 0) (nI 1000) = true := (inB_ex (by decide) (by decide)).mpr ⟨a, Nat.zero_le _, ha, rfl⟩
    cases off with
    | true =>
      refine ⟨hl.1.1, Or.inr (Or.inr ⟨1, 6, by omega, x_crashIS a1 ha (by omega) (by omega) ⟨by omega, vp1, bd, ?_⟩⟩)⟩
      exact p_crashAt i98 (fun w => by rw [hin] at w; exact absurd w (by decide)) (fun _ _ => ⟨bd, p_thrown ⟨upd_at, tail_ok hN hx62⟩⟩) (fun _ _ _ w => absurd w (by decide))
    | false =>
      refine ⟨hl.1.1, Or.inl ⟨by omega, g_crashAt a1 a2 ha (fun T eT gT => ⟨by omega, vp1, bd, ?_⟩)⟩⟩
      refine p_crashAt i98 (fun w => by rw [hin] at w; exact absurd w (by decide)) (fun _ w => absurd w (by decide)) (fun a' ha' e _ => ?_)
      obtain rfl : a = a' := (nI_eq (by omega) (by omega)).mp e
      obtain ⟨v', hv'⟩ : ∃ v', v' = upd (upd v 99 (nI 0)) 97 (nI a) := ⟨_, rfl⟩
      have hF : rF [99, 97] [] [] v f g v' f g := ⟨fun i hi => by rw [hv', upd_n (fun e => hi (by rw [e]; decide)), upd_n (fun e => hi (by rw [e]; decide))], fun _ _ => rfl, fun _ _ => rfl⟩
      rw [← hv']
      have hrel : Rel (k + 1) T dp x out v' f g (cd + 1) (dd + 6) := Rel_I (cc' := some a) hl a3 a4 a5 a6 a8 a9 b2 b3 eT gT a2 fr_rf (out_fr eT.1 (by decide) o) hF (by decide) (by decide) (by decide) ⟨⟨by rw [hF.1 98 (by decide)]; exact i98, fun q => by rw [hv', upd_at]; rfl, by rw [hF.1 96 (by decide)]; exact i96, by rw [hF.1 39 (by decide)]; exact i39, by rw [hF.1 48 (by decide)]; exact i48⟩, rB_f hF (by decide) (by decide) (by decide) iB, rS_f hF (by decide) (by decide) (by decide) iS, rX_f hF (by decide) (by decide) iX, rM_f hF (by decide) (by decide) iM, rC_f hF (by decide) (by decide) iC, rP_f hF (by decide) (by decide) iP, rK_f hF (by decide) iK, iZ, iW⟩ ⟨⟨p1, p2, p3, p4, p5⟩, p6, p7, ⟨p8, p8b, p8c, by omega⟩, p9, fun j e => by rw [← Option.some.inj e]; exact ha, p11, p12, p13, p14.1, by have := p14.2; first | omega | (simp only [mgC] at this ⊢; omega)⟩ (fun _ _ => rfl) (Nat.le_refl _) (by omega) (by omega)
      exact ⟨bd, p_thrown ⟨by rw [hv', upd_n (by decide), upd_at], tail_ok hN hrel⟩⟩
  · have hno : ∀ a, a ≤ 1000 → y1 ≠ nI a := fun a h1 h2 => hy ⟨a, h1, h2⟩
    refine ⟨hl.1.1, Or.inr (Or.inl ⟨1, 6, by omega, x_crashIA hno (by omega) (by omega) ⟨by omega, vp1, bd, ?_⟩⟩)⟩
    refine p_crashAt i98 (fun _ => ⟨bd, p_thrown ⟨upd_at, tail_ok hN hx6⟩⟩) (fun w => ?_) (fun a h1 h2 => absurd h2 (hno a h1))
    obtain ⟨a, -, h1, h2⟩ := (inB_ex (by decide) (by decide)).mp w
    exact absurd h2 (hno a h1)
theorem lc_15 (hI : Rel k S dp x out v f g cd dd) (hk : k < 512) (hN : nxR R k dp x out x4) : lw_c15 R xs L dp x out x4 cd dd S v f g := by
  unfold lw_c15
  have hx6 := Rel_x (t := nI 1) (mc := 1) (ms := 6) (by decide) (by decide) hI
  have bd := Rel_bd (by omega) hx6
  have bd0 := Rel_bd (by omega) hI
  obtain ⟨ρ, WL, n, P, ks, A, yn, F, G, ad, c0, c1, n0, P0, n1, P1, hl, hr⟩ := id hI
  obtain ⟨o, so, sd, sg, made, B, ix, mg, cm, pr, sn, op, fi, w, cc, off, dn, hd, sl, m, nd, qs, w0, w1, H, sk, tk, CL, u, RR, ⟨a1, a2⟩, ⟨a3, a4⟩, ⟨a5, a6⟩, a7, a8, a9, b1, b2, b3, b7, b8⟩ := id hr
  obtain ⟨⟨i98, i97, i96, i39, i48⟩, iB, iS, iX, iM, iC, iP, iK, iZ, iW⟩ := id a7
  obtain ⟨⟨p1, p2, p3, p4, p5⟩, p6, p7, ⟨p8, p8b, p8c, p8d⟩, p9, p10, p11, p12, p13, p14⟩ := id b1
  refine ⟨1, 6, bd, ?_⟩
  unfold kw_L_drop
  by_cases hy : off = true ∨ pr = none
  · refine ⟨hl.1.1, Or.inr ⟨1, 6, by omega, x_drop a1 hy (by omega) (by omega) ⟨by omega, bd, ?_⟩⟩⟩
    refine p_drop i98 iP iS iZ.2.2.1 (fun _ => ⟨bd, p_thrown ⟨upd_at, tail_ok hN hx6⟩⟩) (fun s v' f' e1 e2 => ?_)
    rcases hy with hy | hy
    · rw [hy] at e1; exact absurd e1 (by decide)
    · rw [hy] at e2; exact absurd e2 (by simp)
  · have hoff : off = false := by
      cases off with
      | true => exact absurd (Or.inl rfl) hy
      | false => rfl
    subst hoff
    obtain ⟨s0, rfl⟩ : ∃ s0, pr = some s0 := by
      cases pr with
      | none => exact absurd (Or.inr rfl) hy
      | some s0 => exact ⟨s0, rfl⟩
    refine ⟨hl.1.1, Or.inl ⟨by omega, g_drop a1 a2 (fun T eT gT => ⟨by omega, bd, ?_⟩)⟩⟩
    refine p_drop i98 iP iS iZ.2.2.1 (fun w => absurd w hy) (fun s v' f' _ e hF h99 h40 hC hZ => ?_)
    obtain rfl := Option.some.inj e
    obtain ⟨w1', w2'⟩ := iW
    obtain ⟨w3', w4'⟩ := w2' s0 rfl
    have l100 : ∀ n, n < made → (sg n).length ≤ 100 := fun n hn => (iS.2.2 n hn).2.1
    have wr' : rWr f' sg ix cm none := by
      refine ⟨fun n hn j hj => ?_, fun p e => absurd e (by simp)⟩
      show f' 22 (100 * n + j) = bI (wbs cm n j)
      by_cases c : n ∈ s0.1
      · rw [hC.1 n c j hj]; exact w3' n c j hj
      · rw [hC.2 (100 * n + j) (fun n2 h2 j2 hj2 e => ?_), w1' n hn j hj]
        · show bI (if n ∈ s0.1 then s0.2 n j else wbs cm n j) = _
          rw [if_neg c]
        · have := l100 n (a2.1 n hn)
          have := l100 n2 (a2.2.2.2.1 s0 rfl n2 h2)
          obtain rfl : n = n2 := by omega
          exact c h2
    have hrel : Rel (k + 1) T dp x out v' f' g (cd + 1) (dd + 6) := Rel_I (pr' := none) hl a3 a4 a5 a6 a8 a9 b2 b3 eT gT ⟨a2.1, a2.2.1, a2.2.2.1, fun w e => absurd e (by simp), a2.2.2.2.2⟩ fr_rf (out_fr eT.1 (by decide) o) hF (by decide) (by decide) (by decide) ⟨⟨by rw [hF.1 98 (by decide)]; exact i98, fun q => by rw [hF.1 97 (by decide)]; exact i97 q, by rw [hF.1 96 (by decide)]; exact i96, by rw [hF.1 39 (by decide)]; exact i39, by rw [hF.1 48 (by decide)]; exact i48⟩, rB_f hF (by decide) (by decide) (by decide) iB, rS_f hF (by decide) (by decide) (by decide) iS, rX_f hF (by decide) (by decide) iX, rM_f hF (by decide) (by decide) iM, rC_f hF (by decide) (by decide) iC, ⟨h40, fun s e => absurd e (by simp)⟩, rK_f hF (by decide) iK, ⟨rZ_f hF (by decide) iZ.1, fun c hc => hZ c (iZ.2.1 c hc), rZ_f hF (by decide) iZ.2.2.1, rZ_f hF (by decide) iZ.2.2.2.1, rZ_f hF (by decide) iZ.2.2.2.2⟩, wr'⟩ ⟨⟨p1, p2, p3, fun s e => absurd e (by simp), p5⟩, p6, p7, ⟨p8, p8b, p8c, by omega⟩, fun w => absurd w (by decide), p10, p11, p12, p13, p14.1, by have := p14.2; first | omega | (simp only [mgC] at this ⊢; omega)⟩ (fun _ _ => rfl) (Nat.le_refl _) (by omega) (by omega)
    exact ⟨bd, p_thrown ⟨h99, tail_ok hN hrel⟩⟩
end CASG
