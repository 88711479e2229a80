/-! both worlds together: what only reads -/
section CASE
variable {S T S8 : cS} {ρ ρ' : Nat → Nat} {M Am Fm Gm : List Nat} {v v' : Nat → Int32} {f f' : Nat → Nat → Int32} {g g' : Nat → Nat → Int64} {dp x out k cd dd L : Nat} {x4 : Int32} {xs : Nat → Int32} {R : Int32 → Nat → Nat → cS → (Nat → Int32) → (Nat → Nat → Int32) → (Nat → Nat → Int64) → Prop}
variable {n : Nat} {P : Nat → Nat} {ks : Nat} {A : Nat → Int64} {yn : Nat} {F G : Nat → Int64} {ad : Bool} {c0 c1 n0 : Nat} {P0 : Nat → Nat} {n1 : Nat} {P1 : Nat → Nat} {WL : List Int64} {mc ms : Nat}
/-- what only reads leaves all as it was -/
theorem Rel_R (hl : Lp k WL S ρ x v f g n P ks A yn F G ad c0 c1 n0 P0 n1 P1) (hr : Rest (lgT ks A yn F G) ad k WL S ρ dp x out v f g cd dd) (hc : fr S T ρ ρ' M) (hM : dj (lRm ++ [2, 3, 4, 5, 6]) M) (ho : cA T out 15 ∧ cn T out = 1 ∧ ρ' out = 90) (h : rF Am Fm Gm v f g v' f' g') (h1 : dj (lRv ++ [2, 6, 9, 10, 13, 14]) Am) (h2 : dj (lRf ++ [2, 8]) Fm) (h3 : dj [1, 4, 5, 6, 7, 12, 17, 45] Gm) (hm : mc ≤ 1170) (hs : ms ≤ 13440) : Rel (k + 1) T dp x out v' f' g' (cd + mc) (dd + ms) := by
  have hx := hl.1
  have x1 : 1 ∉ M := dj_n hM (by decide)
  exact Rel_L hc (dj_app hM).1 ho h (dj_app h1).1 (dj_app h2).1 (dj_sub h3 (by decide)) (fun _ z => z) hm hs hr (Lp_fr hc (dj_app hM).2 ((hc.2 x hx.1.1 (by rw [hx.2.1]; exact x1)).trans hx.2.1) (fun q _ => fr_cr hc hx.1 (by rw [hx.2.1]; exact x1)) h (dj_app h1).2 (dj_app h2).2 (dj_sub h3 (by decide)) hl)
theorem rd_99 (hl : Lp k WL S ρ x v f g n P ks A yn F G ad c0 c1 n0 P0 n1 P1) (hr : Rest (lgT ks A yn F G) ad k WL S ρ dp x out v f g cd dd) (f90 : fr S S8 ρ ρ [90]) (o8 : cA S8 out 15 ∧ cn S8 out = 1 ∧ ρ out = 90) : Rel (k + 1) S8 dp x out (upd v 99 (nI 0)) f g (cd + 1) (dd + 6) := Rel_R hl hr f90 (by decide) o8 rF_99u (by decide) (by decide) (by decide) (by decide) (by decide)
theorem rd_0 (h : Rel k S dp x out v f g cd dd) : Rel (k + 1) S dp x out (upd v 99 (nI 0)) f g cd dd := Rel_x (mc := 0) (ms := 0) (by decide) (by decide) h
theorem lc_18 (hI : Rel k S dp x out v f g cd dd) (hk : k < 512) (hN : nxR R k dp x out x4) : lw_c18 R xs L dp x out x4 cd dd S v f g := by
  unfold lw_c18
  have hx6 := Rel_x (t := nI 1) (mc := 1) (ms := 6) (by decide) (by decide) hI
  have bd := Rel_bd (by omega) hx6
  have bd0 := Rel_bd (by omega) hI
  obtain ⟨ρ, WL, n, P, ks, A, yn, F, G, ad, c0, c1, n0, P0, n1, P1, hl, hr⟩ := id hI
  obtain ⟨o, so, sd, sg, made, B, ix, mg, cm, pr, sn, op, fi, w, cc, off, dn, hd, sl, m, nd, qs, w0, w1, H, sk, tk, CL, u, RR, ⟨a1, a2⟩, ⟨a3, a4⟩, ⟨a5, a6⟩, a7, a8, a9, b1, b2, b3, b7, b8⟩ := id hr
  obtain ⟨⟨i98, i97, i96, i39, i48⟩, iB, iS, iX, iM, iC, iP, iK, iZ, iW⟩ := id a7
  refine ⟨hl.1.1, bd0, ?_⟩
  unfold k_X11_isDown
  have e : ci S 370 x = bI off := a1.2.2.2.2.2.2.2.2.2.2.2.2.2
  rw [e]
  exact ⟨hl.1.1, ⟨_, rfl⟩, bd0, p_isDown i98 ⟨rfl, tail_ok hN (rd_0 hI)⟩⟩
theorem lc_20 (hI : Rel k S dp x out v f g cd dd) (hk : k < 512) (hN : nxR R k dp x out x4) : lw_c20 R xs L dp x out x4 cd dd S v f g := by
  unfold lw_c20
  have hx6 := Rel_x (t := nI 1) (mc := 1) (ms := 6) (by decide) (by decide) hI
  have bd := Rel_bd (by omega) hx6
  have bd0 := Rel_bd (by omega) hI
  obtain ⟨ρ, WL, n, P, ks, A, yn, F, G, ad, c0, c1, n0, P0, n1, P1, hl, hr⟩ := id hI
  obtain ⟨o, so, sd, sg, made, B, ix, mg, cm, pr, sn, op, fi, w, cc, off, dn, hd, sl, m, nd, qs, w0, w1, H, sk, tk, CL, u, RR, ⟨a1, a2⟩, ⟨a3, a4⟩, ⟨a5, a6⟩, a7, a8, a9, b1, b2, b3, b7, b8⟩ := id hr
  obtain ⟨⟨i98, i97, i96, i39, i48⟩, iB, iS, iX, iM, iC, iP, iK, iZ, iW⟩ := id a7
  refine ⟨hl.1.1, bd0, ?_⟩
  unfold k_X11_writes
  have e : ci S 368 x = nI w := a1.2.2.2.2.2.2.2.2.2.2.2.1
  rw [e]
  exact ⟨hl.1.1, bd0, p_writes i96 ⟨rfl, tail_ok hN (rd_0 hI)⟩⟩
theorem lc_48 (hI : Rel k S dp x out v f g cd dd) (hk : k < 512) (hN : nxR R k dp x out x4) : lw_c48 R xs L dp x out x4 cd dd S v f g := by
  unfold lw_c48
  have hx6 := Rel_x (t := nI 1) (mc := 1) (ms := 6) (by decide) (by decide) hI
  have bd := Rel_bd (by omega) hx6
  have bd0 := Rel_bd (by omega) hI
  obtain ⟨ρ, WL, n, P, ks, A, yn, F, G, ad, c0, c1, n0, P0, n1, P1, hl, hr⟩ := id hI
  obtain ⟨o, so, sd, sg, made, B, ix, mg, cm, pr, sn, op, fi, w, cc, off, dn, hd, sl, m, nd, qs, w0, w1, H, sk, tk, CL, u, RR, ⟨a1, a2⟩, ⟨a3, a4⟩, ⟨a5, a6⟩, a7, a8, a9, b1, b2, b3, b7, b8⟩ := id hr
  obtain ⟨⟨i98, i97, i96, i39, i48⟩, iB, iS, iX, iM, iC, iP, iK, iZ, iW⟩ := id a7
  exact ⟨hl.1.1, bd0, g_skipped hl.1.1 a6 ⟨bd0, p_skipped a9.2.2.1 ⟨rfl, tail_ok hN (rd_0 hI)⟩⟩⟩
theorem lc_49 (hI : Rel k S dp x out v f g cd dd) (hk : k < 512) (hN : nxR R k dp x out x4) : lw_c49 R xs L dp x out x4 cd dd S v f g := by
  unfold lw_c49
  have hx6 := Rel_x (t := nI 1) (mc := 1) (ms := 6) (by decide) (by decide) hI
  have bd := Rel_bd (by omega) hx6
  have bd0 := Rel_bd (by omega) hI
  obtain ⟨ρ, WL, n, P, ks, A, yn, F, G, ad, c0, c1, n0, P0, n1, P1, hl, hr⟩ := id hI
  obtain ⟨o, so, sd, sg, made, B, ix, mg, cm, pr, sn, op, fi, w, cc, off, dn, hd, sl, m, nd, qs, w0, w1, H, sk, tk, CL, u, RR, ⟨a1, a2⟩, ⟨a3, a4⟩, ⟨a5, a6⟩, a7, a8, a9, b1, b2, b3, b7, b8⟩ := id hr
  obtain ⟨⟨i98, i97, i96, i39, i48⟩, iB, iS, iX, iM, iC, iP, iK, iZ, iW⟩ := id a7
  exact ⟨hl.1.1, bd0, g_cached hl.1.1 a6 ⟨bd0, p_cached a9.2.2.2.1 ⟨rfl, tail_ok hN (rd_0 hI)⟩⟩⟩
theorem lc_46 (hI : Rel k S dp x out v f g cd dd) (hk : k < 512) (hx4 : x4 = nI (6 * k)) (hL : 6 * k + 6 ≤ L) (hL2 : L ≤ 3072) (hN : nxR R k dp x out x4) : lw_c46 R xs L dp x out x4 cd dd S v f g := by
  have vp1 := vp6 hx4 hL hL2 (show 1 < 6 by decide)
  unfold lw_c46
  obtain ⟨y1, ey1⟩ : ∃ y1, y1 = xs (x4 + nI 1).toNatClampNeg := ⟨_, rfl⟩
  rw [← ey1]
  have hx6 := Rel_x (t := nI 1) (mc := 1) (ms := 6) (by decide) (by decide) hI
  have bd := Rel_bd (by omega) hx6
  have bd0 := Rel_bd (by omega) hI
  obtain ⟨ρ, WL, n, P, ks, A, yn, F, G, ad, c0, c1, n0, P0, n1, P1, hl, hr⟩ := id hI
  obtain ⟨o, so, sd, sg, made, B, ix, mg, cm, pr, sn, op, fi, w, cc, off, dn, hd, sl, m, nd, qs, w0, w1, H, sk, tk, CL, u, RR, ⟨a1, a2⟩, ⟨a3, a4⟩, ⟨a5, a6⟩, a7, a8, a9, b1, b2, b3, b7, b8⟩ := id hr
  obtain ⟨⟨i98, i97, i96, i39, i48⟩, iB, iS, iX, iM, iC, iP, iK, iZ, iW⟩ := id a7
  refine ⟨vp1, 1, 6, bd, ?_⟩
  unfold kw_L_hitAt
  by_cases hy : ∃ a, a < H.length ∧ y1 = nI a
  · obtain ⟨a, ha, rfl⟩ := hy
    obtain ⟨z, hz⟩ := get_ex (l := H) (k := a) ha
    have H20 := a9.2.1.2.1
    refine ⟨hl.1.1, Or.inl ⟨by omega, g_hitAt hl.1.1 a6 hz (cls_out (by omega) o (fun S8 f90 o8 j8 => ⟨vp1, bd, ?_⟩))⟩⟩
    refine p_hitAt a9.2.1 (fun w => absurd rfl (w a ha)) (fun k' y hy' e => ?_)
    have := get_lt hy'
    obtain rfl : a = k' := (nI_eq (by omega) (by omega)).mp e
    rw [hz] at hy'
    obtain rfl := Option.some.inj hy'
    exact tl_ok bd upd_at (out_X o8) j8 (hN _ _ _ _ _ _ (rd_99 hl hr f90 o8))
  · have hno : ∀ a, a < H.length → y1 ≠ nI a := fun a h1 h2 => hy ⟨a, h1, h2⟩
    refine ⟨hl.1.1, Or.inr ⟨1, 6, by omega, x_hitAt hl.1.1 a6 hno (by omega) (by omega) ⟨by omega, vp1, bd, ?_⟩⟩⟩
    exact p_hitAt a9.2.1 (fun _ => tl_x (by decide) bd upd_at (hN _ _ _ _ _ _ hx6)) (fun k' y hy' e => absurd e (hno k' (get_lt hy')))
theorem lc_47 (hI : Rel k S dp x out v f g cd dd) (hk : k < 512) (hx4 : x4 = nI (6 * k)) (hL : 6 * k + 6 ≤ L) (hL2 : L ≤ 3072) (hN : nxR R k dp x out x4) : lw_c47 R xs L dp x out x4 cd dd S v f g := by
  have vp1 := vp6 hx4 hL hL2 (show 1 < 6 by decide)
  unfold lw_c47
  obtain ⟨y1, ey1⟩ : ∃ y1, y1 = xs (x4 + nI 1).toNatClampNeg := ⟨_, rfl⟩
  rw [← ey1]
  have hx6 := Rel_x (t := nI 1) (mc := 1) (ms := 6) (by decide) (by decide) hI
  have bd := Rel_bd (by omega) hx6
  have bd0 := Rel_bd (by omega) hI
  obtain ⟨ρ, WL, n, P, ks, A, yn, F, G, ad, c0, c1, n0, P0, n1, P1, hl, hr⟩ := id hI
  obtain ⟨o, so, sd, sg, made, B, ix, mg, cm, pr, sn, op, fi, w, cc, off, dn, hd, sl, m, nd, qs, w0, w1, H, sk, tk, CL, u, RR, ⟨a1, a2⟩, ⟨a3, a4⟩, ⟨a5, a6⟩, a7, a8, a9, b1, b2, b3, b7, b8⟩ := id hr
  obtain ⟨⟨i98, i97, i96, i39, i48⟩, iB, iS, iX, iM, iC, iP, iK, iZ, iW⟩ := id a7
  refine ⟨vp1, 1, 6, bd, ?_⟩
  unfold kw_L_rankAt
  by_cases hy : ∃ a, a < H.length ∧ y1 = nI a
  · obtain ⟨a, ha, rfl⟩ := hy
    obtain ⟨z, hz⟩ := get_ex (l := H) (k := a) ha
    have H20 := a9.2.1.2.1
    refine ⟨hl.1.1, Or.inl ⟨by omega, g_rankAt hl.1.1 a6 hz (cls_out (by omega) o (fun S8 f90 o8 j8 => ⟨vp1, bd, ?_⟩))⟩⟩
    refine p_rankAt a9.2.1 (fun w => absurd rfl (w a ha)) (fun k' y hy' e => ?_)
    have := get_lt hy'
    obtain rfl : a = k' := (nI_eq (by omega) (by omega)).mp e
    rw [hz] at hy'
    obtain rfl := Option.some.inj hy'
    exact tl_ok bd upd_at (out_X o8) j8 (hN _ _ _ _ _ _ (rd_99 hl hr f90 o8))
  · have hno : ∀ a, a < H.length → y1 ≠ nI a := fun a h1 h2 => hy ⟨a, h1, h2⟩
    refine ⟨hl.1.1, Or.inr ⟨1, 6, by omega, x_rankAt hl.1.1 a6 hno (by omega) (by omega) ⟨by omega, vp1, bd, ?_⟩⟩⟩
    exact p_rankAt a9.2.1 (fun _ => tl_x (by decide) bd upd_at (hN _ _ _ _ _ _ hx6)) (fun k' y hy' e => absurd e (hno k' (get_lt hy')))
theorem lc_21 (hI : Rel k S dp x out v f g cd dd) (hk : k < 512) (hN : nxR R k dp x out x4) : lw_c21 R xs L dp x out x4 cd dd S v f g := by
  unfold lw_c21
  have hx6 := Rel_x (t := nI 1) (mc := 1) (ms := 6) (by decide) (by decide) hI
  have bd := Rel_bd (by omega) hx6
  have bd0 := Rel_bd (by omega) hI
  obtain ⟨ρ, WL, n, P, ks, A, yn, F, G, ad, c0, c1, n0, P0, n1, P1, hl, hr⟩ := id hI
  obtain ⟨o, so, sd, sg, made, B, ix, mg, cm, pr, sn, op, fi, w, cc, off, dn, hd, sl, m, nd, qs, w0, w1, H, sk, tk, CL, u, RR, ⟨a1, a2⟩, ⟨a3, a4⟩, ⟨a5, a6⟩, a7, a8, a9, b1, b2, b3, b7, b8⟩ := id hr
  obtain ⟨⟨i98, i97, i96, i39, i48⟩, iB, iS, iX, iM, iC, iP, iK, iZ, iW⟩ := id a7
  refine ⟨1, 6, bd, ?_⟩
  unfold kw_L_segments
  cases off with
  | true =>
    refine ⟨hl.1.1, Or.inr ⟨1, 6, by omega, x_segments a1 (by omega) (by omega) ⟨by omega, bd, ?_⟩⟩⟩
    exact p_segments i98 iX (fun _ => tl_x (by decide) bd upd_at (hN _ _ _ _ _ _ hx6)) (fun w => absurd w (by decide))
  | false =>
    refine ⟨hl.1.1, Or.inl ⟨by omega, g_segments a1 (cls_out (by omega) o (fun S8 f90 o8 j8 => ⟨bd, ?_⟩))⟩⟩
    exact p_segments i98 iX (fun w => absurd w (by decide)) (fun _ => tl_ok bd upd_at (out_X o8) j8 (hN _ _ _ _ _ _ (rd_99 hl hr f90 o8)))
theorem lc_22 (hI : Rel k S dp x out v f g cd dd) (hk : k < 512) (hx4 : x4 = nI (6 * k)) (hL : 6 * k + 6 ≤ L) (hL2 : L ≤ 3072) (hN : nxR R k dp x out x4) : lw_c22 R xs L dp x out x4 cd dd S v f g := by
  have vp1 := vp6 hx4 hL hL2 (show 1 < 6 by decide)
  unfold lw_c22
  obtain ⟨y1, ey1⟩ : ∃ y1, y1 = xs (x4 + nI 1).toNatClampNeg := ⟨_, rfl⟩
  rw [← ey1]
  have hx6 := Rel_x (t := nI 1) (mc := 1) (ms := 6) (by decide) (by decide) hI
  have bd := Rel_bd (by omega) hx6
  have bd0 := Rel_bd (by omega) hI
  obtain ⟨ρ, WL, n, P, ks, A, yn, F, G, ad, c0, c1, n0, P0, n1, P1, hl, hr⟩ := id hI
  obtain ⟨o, so, sd, sg, made, B, ix, mg, cm, pr, sn, op, fi, w, cc, off, dn, hd, sl, m, nd, qs, w0, w1, H, sk, tk, CL, u, RR, ⟨a1, a2⟩, ⟨a3, a4⟩, ⟨a5, a6⟩, a7, a8, a9, b1, b2, b3, b7, b8⟩ := id hr
  obtain ⟨⟨i98, i97, i96, i39, i48⟩, iB, iS, iX, iM, iC, iP, iK, iZ, iW⟩ := id a7
  have i200 := iX.2.1
  refine ⟨vp1, 1, 6, bd, ?_⟩
  unfold kw_L_segmentAt
  by_cases hy : off = true ∨ ∀ k, k < ix.1.length → y1 ≠ nI k
  · refine ⟨hl.1.1, Or.inr ⟨1, 6, by omega, x_segmentAt a1 hy (by omega) (by omega) ⟨by omega, vp1, bd, ?_⟩⟩⟩
    refine p_segmentAt i98 iX (fun _ => tl_x (by decide) bd upd_at (hN _ _ _ _ _ _ hx6)) (fun k' n' e0 h1 h2 => ?_)
    rcases hy with hy | hy
    · rw [hy] at e0; exact absurd e0 (by decide)
    · exact absurd h2 (hy k' (get_lt h1))
  · have hoff : off = false := by
      cases off with
      | true => exact absurd (Or.inl rfl) hy
      | false => rfl
    subst hoff
    obtain ⟨a, ha, rfl⟩ : ∃ a, a < ix.1.length ∧ y1 = nI a := by
      by_cases z : ∃ a, a < ix.1.length ∧ y1 = nI a
      · exact z
      · exact absurd (Or.inr (fun a h1 h2 => z ⟨a, h1, h2⟩)) hy
    obtain ⟨z, hz⟩ := get_ex (l := ix.1) (k := a) ha
    refine ⟨hl.1.1, Or.inl ⟨by omega, g_segmentAt a1 a2.1 hz (cls_out (by omega) o (fun S8 f90 o8 j8 => ⟨vp1, bd, ?_⟩))⟩⟩
    refine p_segmentAt i98 iX (fun w => absurd w hy) (fun k' n' _ h1 h2 => ?_)
    have := get_lt h1
    obtain rfl : a = k' := (nI_eq (by omega) (by omega)).mp h2
    rw [hz] at h1
    obtain rfl := Option.some.inj h1
    exact tl_ok bd upd_at (out_X o8) j8 (hN _ _ _ _ _ _ (rd_99 hl hr f90 o8))
theorem lc_23 (hI : Rel k S dp x out v f g cd dd) (hk : k < 512) (hx4 : x4 = nI (6 * k)) (hL : 6 * k + 6 ≤ L) (hL2 : L ≤ 3072) (hN : nxR R k dp x out x4) : lw_c23 R xs L dp x out x4 cd dd S v f g := by
  have vp1 := vp6 hx4 hL hL2 (show 1 < 6 by decide)
  unfold lw_c23
  obtain ⟨y1, ey1⟩ : ∃ y1, y1 = xs (x4 + nI 1).toNatClampNeg := ⟨_, rfl⟩
  rw [← ey1]
  have hx6 := Rel_x (t := nI 1) (mc := 1) (ms := 6) (by decide) (by decide) hI
  have bd := Rel_bd (by omega) hx6
  have bd0 := Rel_bd (by omega) hI
  obtain ⟨ρ, WL, n, P, ks, A, yn, F, G, ad, c0, c1, n0, P0, n1, P1, hl, hr⟩ := id hI
  obtain ⟨o, so, sd, sg, made, B, ix, mg, cm, pr, sn, op, fi, w, cc, off, dn, hd, sl, m, nd, qs, w0, w1, H, sk, tk, CL, u, RR, ⟨a1, a2⟩, ⟨a3, a4⟩, ⟨a5, a6⟩, a7, a8, a9, b1, b2, b3, b7, b8⟩ := id hr
  obtain ⟨⟨i98, i97, i96, i39, i48⟩, iB, iS, iX, iM, iC, iP, iK, iZ, iW⟩ := id a7
  have i200 := iX.2.1
  refine ⟨vp1, 1, 6, bd, ?_⟩
  unfold kw_L_live
  by_cases hy : off = true ∨ ∀ k, k < ix.1.length → y1 ≠ nI k
  · refine ⟨hl.1.1, Or.inr ⟨1, 6, by omega, x_live a1 hy (by omega) (by omega) ⟨by omega, vp1, bd, ?_⟩⟩⟩
    refine p_live i98 iS iX (fun _ => tl_x (by decide) bd upd_at (hN _ _ _ _ _ _ hx6)) (fun k' n' e0 h1 h2 => ?_)
    rcases hy with hy | hy
    · rw [hy] at e0; exact absurd e0 (by decide)
    · exact absurd h2 (hy k' (get_lt h1))
  · have hoff : off = false := by
      cases off with
      | true => exact absurd (Or.inl rfl) hy
      | false => rfl
    subst hoff
    obtain ⟨a, ha, rfl⟩ : ∃ a, a < ix.1.length ∧ y1 = nI a := by
      by_cases z : ∃ a, a < ix.1.length ∧ y1 = nI a
      · exact z
      · exact absurd (Or.inr (fun a h1 h2 => z ⟨a, h1, h2⟩)) hy
    obtain ⟨z, hz⟩ := get_ex (l := ix.1) (k := a) ha
    refine ⟨hl.1.1, Or.inl ⟨by omega, g_live a1 a2.1 hz (cls_out (by omega) o (fun S8 f90 o8 j8 => ⟨vp1, bd, ?_⟩))⟩⟩
    refine p_live i98 iS iX (fun w => absurd w hy) (fun k' n' _ h1 h2 => ?_)
    have := get_lt h1
    obtain rfl : a = k' := (nI_eq (by omega) (by omega)).mp h2
    rw [hz] at h1
    obtain rfl := Option.some.inj h1
    exact tl_ok bd upd_at (out_X o8) j8 (hN _ _ _ _ _ _ (rd_99 hl hr f90 o8))
theorem lc_24 (hI : Rel k S dp x out v f g cd dd) (hk : k < 512) (hx4 : x4 = nI (6 * k)) (hL : 6 * k + 6 ≤ L) (hL2 : L ≤ 3072) (hN : nxR R k dp x out x4) : lw_c24 R xs L dp x out x4 cd dd S v f g := by
  have vp1 := vp6 hx4 hL hL2 (show 1 < 6 by decide)
  have vp2 := vp6 hx4 hL hL2 (show 2 < 6 by decide)
  unfold lw_c24
  obtain ⟨y1, ey1⟩ : ∃ y1, y1 = xs (x4 + nI 1).toNatClampNeg := ⟨_, rfl⟩
  rw [← ey1]
  obtain ⟨y2, ey2⟩ : ∃ y2, y2 = xs (x4 + nI 2).toNatClampNeg := ⟨_, rfl⟩
  rw [← ey2]
  have hx6 := Rel_x (t := nI 1) (mc := 1) (ms := 6) (by decide) (by decide) hI
  have bd := Rel_bd (by omega) hx6
  have bd0 := Rel_bd (by omega) hI
  obtain ⟨ρ, WL, n, P, ks, A, yn, F, G, ad, c0, c1, n0, P0, n1, P1, hl, hr⟩ := id hI
  obtain ⟨o, so, sd, sg, made, B, ix, mg, cm, pr, sn, op, fi, w, cc, off, dn, hd, sl, m, nd, qs, w0, w1, H, sk, tk, CL, u, RR, ⟨a1, a2⟩, ⟨a3, a4⟩, ⟨a5, a6⟩, a7, a8, a9, b1, b2, b3, b7, b8⟩ := id hr
  obtain ⟨⟨i98, i97, i96, i39, i48⟩, iB, iS, iX, iM, iC, iP, iK, iZ, iW⟩ := id a7
  have i200 := iX.2.1
  refine ⟨vp1, vp2, 1, 6, bd, ?_⟩
  unfold kw_L_keyAt
  by_cases hy : off = true ∨ (∀ k, k < ix.1.length → y1 ≠ nI k) ∨ ∃ k n, ix.1[k]? = some n ∧ y1 = nI k ∧ ∀ j, j < (sg n).length → y2 ≠ nI j
  · refine ⟨hl.1.1, Or.inr ⟨1, 6, by omega, x_keyAt a1 a2.1 hy (by omega) (by omega) ⟨by omega, vp1, vp2, bd, ?_⟩⟩⟩
    refine p_keyAt i98 iS iX (fun _ => tl_x (by decide) bd upd_at (hN _ _ _ _ _ _ hx6)) (fun k' n' j' d' e0 h1 h2 h3 h4 => ?_)
    rcases hy with hy | hy | ⟨k2, n2, e1, e2, e3⟩
    · rw [hy] at e0; exact absurd e0 (by decide)
    · exact absurd h2 (hy k' (get_lt h1))
    · have := get_lt h1
      have := get_lt e1
      obtain rfl : k' = k2 := (nI_eq (by omega) (by omega)).mp (h2.symm.trans e2)
      rw [e1] at h1
      obtain rfl := Option.some.inj h1
      exact absurd h4 (e3 j' (get_lt h3))
  · have hoff : off = false := by
      cases off with
      | true => exact absurd (Or.inl rfl) hy
      | false => rfl
    subst hoff
    obtain ⟨a, ha, e1⟩ : ∃ a, a < ix.1.length ∧ y1 = nI a := by
      by_cases z : ∃ a, a < ix.1.length ∧ y1 = nI a
      · exact z
      · exact absurd (Or.inr (Or.inl (fun a h1 h2 => z ⟨a, h1, h2⟩))) hy
    obtain ⟨z, hz⟩ := get_ex (l := ix.1) (k := a) ha
    obtain ⟨j, hj, e2⟩ : ∃ j, j < (sg z).length ∧ y2 = nI j := by
      by_cases q : ∃ j, j < (sg z).length ∧ y2 = nI j
      · exact q
      · exact absurd (Or.inr (Or.inr ⟨a, z, hz, e1, fun j h1 h2 => q ⟨j, h1, h2⟩⟩)) hy
    obtain ⟨d, hd'⟩ := get_ex (l := sg z) (k := j) hj
    have l100 := (iS.2.2 z (a2.1 z (List.mem_of_getElem? hz))).2.1
    rw [e1, e2]
    refine ⟨hl.1.1, Or.inl ⟨by omega, g_keyAt a1 a2.1 hz hd' (cls_out (by omega) o (fun S8 f90 o8 j8 => ⟨vp1, vp2, bd, ?_⟩))⟩⟩
    refine p_keyAt i98 iS iX (fun w => absurd (by rw [e1, e2]; exact w) hy) (fun k' n' j' d' _ h1 h2 h3 h4 => ?_)
    have := get_lt h1
    have := get_lt h3
    obtain rfl : a = k' := (nI_eq (by omega) (by omega)).mp h2
    rw [hz] at h1
    obtain rfl := Option.some.inj h1
    obtain rfl : j = j' := (nI_eq (by omega) (by omega)).mp h4
    rw [hd'] at h3
    obtain rfl := Option.some.inj h3
    exact tl_ok bd upd_at (out_X o8) j8 (hN _ _ _ _ _ _ (rd_99 hl hr f90 o8))
theorem lc_9 (hI : Rel k S dp x out v f g cd dd) (hk : k < 512) (hN : nxR R k dp x out x4) : lw_c9 R xs L dp x out x4 cd dd S v f g := by
  unfold lw_c9
  have hx6 := Rel_x (t := nI 1) (mc := 1) (ms := 6) (by decide) (by decide) hI
  have bd := Rel_bd (by omega) hx6
  have bd0 := Rel_bd (by omega) hI
  obtain ⟨ρ, WL, n, P, ks, A, yn, F, G, ad, c0, c1, n0, P0, n1, P1, hl, hr⟩ := id hI
  obtain ⟨o, so, sd, sg, made, B, ix, mg, cm, pr, sn, op, fi, w, cc, off, dn, hd, sl, m, nd, qs, w0, w1, H, sk, tk, CL, u, RR, ⟨a1, a2⟩, ⟨a3, a4⟩, ⟨a5, a6⟩, a7, a8, a9, b1, b2, b3, b7, b8⟩ := id hr
  obtain ⟨⟨i98, i97, i96, i39, i48⟩, iB, iS, iX, iM, iC, iP, iK, iZ, iW⟩ := id a7
  refine ⟨1, 6, bd, ?_⟩
  unfold kw_L_due
  cases off with
  | true =>
    refine ⟨hl.1.1, Or.inr ⟨1, 6, by omega, x_due a1 (by omega) (by omega) ⟨by omega, bd, ?_⟩⟩⟩
    exact p_due i98 iS iX (fun _ => tl_x (by decide) bd upd_at (hN _ _ _ _ _ _ hx6)) (fun _ w => absurd w (by decide)) (fun w => absurd w (by decide))
  | false =>
    refine ⟨hl.1.1, Or.inl ⟨by omega, g_due a1 (fun a h1 h2 => cls_out (by omega) o (fun S8 f90 o8 j8 => ⟨bd, ?_⟩)) (fun h1 => cls_out (by omega) o (fun S8 f90 o8 j8 => ⟨bd, ?_⟩))⟩⟩
    · refine p_due i98 iS iX (fun w => absurd w (by decide)) (fun a' _ h3 h4 => ?_) (fun _ w => absurd h1 (w a))
      obtain rfl : a = a' := by
        rcases Nat.lt_trichotomy a a' with z | z | z
        · exact absurd h1 (h4 a z)
        · exact z
        · exact absurd h3 (h2 a' z)
      exact tl_ok bd upd_at (out_X o8) j8 (hN _ _ _ _ _ _ (rd_99 hl hr f90 o8))
    · exact p_due i98 iS iX (fun w => absurd w (by decide)) (fun a' _ h3 _ => absurd h3 (h1 a')) (fun _ _ => tl_ok bd upd_at (out_X o8) j8 (hN _ _ _ _ _ _ (rd_99 hl hr f90 o8)))
end CASE
