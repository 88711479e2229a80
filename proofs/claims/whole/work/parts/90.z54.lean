/-! both worlds together: questions about words -/
section WPS
variable {S : cS} {ρ : Nat → Nat} {dp made : Nat} {so : Nat → Nat} {sd : Nat → List Nat} {sg : Nat → List Dc} {wp : Wps} {ids : List Nat} {off : Bool} {x y z : Int32} {WL : List Int64}
theorem wp_ex (g : gSegs S ρ dp so sd sg made) : ∃ wp : Wps, wpOk sg made wp := by
  have h : ∀ n fl, ∃ w : List (Int64 × List (Nat × Nat)), n < made → fl < 2 → wOk w (fun c => pstOf (tlD (sg n) fl) c (sg n).length) := fun n fl => by
    by_cases c : n < made ∧ fl < 2
    · obtain ⟨wl, wp, -, -, h⟩ := (g n c.1).2.2.2.2.2.2 fl c.2
      exact ⟨wp, fun _ _ => h⟩
    · exact ⟨[], fun a b => absurd ⟨a, b⟩ c⟩
  obtain ⟨wp, h2⟩ := Classical.skolem.mp (fun n => Classical.skolem.mp (h n))
  exact ⟨wp, h2⟩
theorem tlD_mem {L : List Dc} {fl j p : Nat} {c : Int64} (h : (c, p) ∈ tlD L fl j) : ∃ d, d ∈ L ∧ (c, p) ∈ dT d fl := by
  unfold tlD at h
  cases e : L[j]? with
  | none => rw [e] at h; exact absurd h List.not_mem_nil
  | some d =>
    rw [e] at h
    exact ⟨d, List.mem_of_getElem? e, h⟩
theorem wp_N (h : wpOk sg made wp) (ht : ∀ n, n < made → tkW (sg n)) : wpN wp made := fun n fl hn hf i q hq => by
  obtain ⟨j, p, hj, hm⟩ := pst_ne ((wOk_mem (h n fl hn hf) q).mp (List.mem_of_getElem? hq)).2
  obtain ⟨d, hd, hx⟩ := tlD_mem hm
  exact ht n hn d hd fl (q.1, p) hx
theorem tkIn_mk {l : LGt} (hW : WL.length ≤ 512) (hl : l.2.2.1 ≤ 10) (h : ∀ n, n < made → ∀ d, d ∈ sg n → tIn WL l d) : tkIn sg made (WL ++ (List.range l.2.2.1).map l.2.1) := by
  refine ⟨by rw [List.length_append, List.length_map, List.length_range]; omega, fun n fl j p c hn hf hm => ?_⟩
  obtain ⟨d, hd, hx⟩ := tlD_mem hm
  rcases h n hn d hd fl (c, p) hx with q | ⟨i, hi, q⟩
  · exact List.mem_append_left _ q
  · exact List.mem_append_right _ (List.mem_map.mpr ⟨i, List.mem_range.mpr hi, q.symm⟩)
theorem wd_dec (ids : List Nat) (off : Bool) (x y : Int32) : (off = true ∨ (∀ k, k < ids.length → x ≠ nI k) ∨ ∀ k, k < 2 → y ≠ nI k) ∨ (off = false ∧ ∃ a n fl, ids[a]? = some n ∧ x = nI a ∧ fl < 2 ∧ y = nI fl) := by
  cases off with
  | true => exact Or.inl (Or.inl rfl)
  | false =>
    by_cases h1 : ∃ a, a < ids.length ∧ x = nI a
    · obtain ⟨a, ha, ex⟩ := h1
      by_cases h2 : ∃ fl, fl < 2 ∧ y = nI fl
      · obtain ⟨fl, hf, ey⟩ := h2
        obtain ⟨n, hn⟩ := get_ex ha
        exact Or.inr ⟨rfl, a, n, fl, hn, ex, hf, ey⟩
      · exact Or.inl (Or.inr (Or.inr (fun k a b => h2 ⟨k, a, b⟩)))
    · exact Or.inl (Or.inr (Or.inl (fun k a b => h1 ⟨k, a, b⟩)))
theorem wd_no {k n fl : Nat} (hy : off = true ∨ (∀ k, k < ids.length → x ≠ nI k) ∨ ∀ k, k < 2 → y ≠ nI k) (e0 : off = false) (h1 : ids[k]? = some n) (h3 : x = nI k) (h4 : fl < 2) (h5 : y = nI fl) : False := by
  rcases hy with h | h | h
  · rw [e0] at h; exact absurd h (by decide)
  · exact h k (get_lt h1) h3
  · exact h fl h4 h5
theorem pl_un {a a' n n' fl fl' : Nat} (hl : ids.length ≤ 200) (h1 : ids[a]? = some n) (h2 : ids[a']? = some n') (e : nI a = nI a') (hf : fl < 2) (hf' : fl' < 2) (e2 : nI fl = nI fl') : n' = n ∧ fl' = fl := by
  have := get_lt h1
  have := get_lt h2
  obtain rfl : a = a' := (nI_eq (by omega) (by omega)).mp e
  rw [h1] at h2
  exact ⟨(Option.some.inj h2).symm, ((nI_eq (by omega) (by omega)).mp e2).symm⟩
theorem nw_dec (sg : Nat → List Dc) (wp : Wps) (ids : List Nat) (off : Bool) (x y z : Int32) : noWd sg ids wp off x y z ∨ (off = false ∧ ∃ a n fl j q, ids[a]? = some n ∧ x = nI a ∧ fl < 2 ∧ y = nI fl ∧ (wp n fl)[j]? = some q ∧ z = nI j) := by
  rcases wd_dec ids off x y with h | ⟨h0, a, n, fl, h1, h2, h3, h4⟩
  · exact Or.inl (h.elim Or.inl (fun h => Or.inr (h.elim Or.inl (fun h => Or.inr (Or.inl h)))))
  · by_cases c : ∃ j, j < (wp n fl).length ∧ z = nI j
    · obtain ⟨j, hj, ez⟩ := c
      obtain ⟨q, hq⟩ := get_ex hj
      exact Or.inr ⟨h0, a, n, fl, j, q, h1, h2, h3, h4, hq, ez⟩
    · exact Or.inl (Or.inr (Or.inr (Or.inr ⟨a, n, fl, h1, h2, h3, h4, fun j a b => c ⟨j, a, b⟩⟩)))
theorem nw_no {k n fl j : Nat} {q : Int64 × List (Nat × Nat)} (hl : ids.length ≤ 200) (hy : noWd sg ids wp off x y z) (e0 : off = false) (h1 : ids[k]? = some n) (h3 : x = nI k) (h4 : fl < 2) (h5 : y = nI fl) (h6 : (wp n fl)[j]? = some q) (h7 : z = nI j) : False := by
  rcases hy with h | h | h | ⟨k2, n2, fl2, g1, g2, g3, g4, g5⟩
  · rw [e0] at h; exact absurd h (by decide)
  · exact h k (get_lt h1) h3
  · exact h fl h4 h5
  · obtain ⟨rfl, rfl⟩ := pl_un hl h1 g1 (h3.symm.trans g2) h4 g3 (h5.symm.trans g4)
    exact g5 j (get_lt h6) h7
theorem nw_cls (hwp : wpOk sg made wp) (hM : ∀ n, n ∈ ids → n < made) (h : noWd sg ids wp off x y z) : off = true ∨ (∀ k, k < ids.length → x ≠ nI k) ∨ (∀ k, k < 2 → y ≠ nI k) ∨ ∃ k n fl wp, ids[k]? = some n ∧ x = nI k ∧ fl < 2 ∧ y = nI fl ∧ wOk wp (fun c => pstOf (tlD (sg n) fl) c (sg n).length) ∧ ∀ j, j < wp.length → z ≠ nI j := by
  rcases h with h | h | h | ⟨k2, n2, fl2, g1, g2, g3, g4, g5⟩
  · exact Or.inl h
  · exact Or.inr (Or.inl h)
  · exact Or.inr (Or.inr (Or.inl h))
  · exact Or.inr (Or.inr (Or.inr ⟨k2, n2, fl2, wp n2 fl2, g1, g2, g3, g4, hwp n2 fl2 (hM n2 (List.mem_of_getElem? g1)) g3, g5⟩))
theorem nw_un {a n fl j a' n' fl' j' : Nat} {q q' : Int64 × List (Nat × Nat)} (hl : ids.length ≤ 200) (hwp : wpOk sg made wp) (hW : tkIn sg made WL) (hn : n < made) (h1 : ids[a]? = some n) (h2 : ids[a']? = some n') (e : nI a = nI a') (hf : fl < 2) (hf' : fl' < 2) (e2 : nI fl = nI fl') (hq : (wp n fl)[j]? = some q) (hq' : (wp n' fl')[j']? = some q') (e3 : nI j = nI j') : n' = n ∧ fl' = fl ∧ j' = j ∧ q' = q := by
  obtain ⟨rfl, rfl⟩ := pl_un hl h1 h2 e hf hf' e2
  have := wp_len hwp hW hn hf
  have := get_lt hq
  have := get_lt hq'
  obtain rfl : j = j' := (nI_eq (by omega) (by omega)).mp e3
  rw [hq] at hq'
  exact ⟨rfl, rfl, rfl, (Option.some.inj hq').symm⟩
theorem enc_len {n fl j : Nat} {q : Int64 × List (Nat × Nat)} (hwp : wpOk sg made wp) (hok : ∀ n, n < made → ∀ d, d ∈ sg n → okD d) (h100 : (sg n).length ≤ 100) (t2 : n < made) (hf : fl < 2) (hq : (wp n fl)[j]? = some q) : (encN (nmN 0 q.2)).length < 19200 := by
  have hwq := ((wOk_mem (hwp n fl t2 hf) q).mp (List.mem_of_getElem? hq)).1
  have hok0 := (pstOf_ok (c := q.1) (fun i => (tlD_ok (hok n t2) fl i).1) h100)
  rw [← hwq] at hok0
  have e1 := okP_N hok0.1
  have e3 : (encN (nmN 0 q.2)).length ≤ phiL (q.1, q.2) + 4 := (eLen_le (x := (q.1, q.2)) hok0.1).1
  have h2 : phiL (q.1, q.2) ≤ 8 * (22 * q.2.length) := e1.2
  have := hok0.2.2
  omega
end WPS
section CASP
variable {S T S8 : cS} {ρ ρ' : Nat → Nat} {M Am Fm Gm : List Nat} {v v' : Nat → Int32} {f f' : Nat → Nat → Int32} {g g' : Nat → Nat → Int64} {dp x out k cd dd L : Nat} {x4 : Int32} {xs : Nat → Int32} {R : Int32 → Nat → Nat → cS → (Nat → Int32) → (Nat → Nat → Int32) → (Nat → Nat → Int64) → Prop}
theorem lc_25 (hI : Rel k S dp x out v f g cd dd) (hk : k < 512) (hx4 : x4 = nI (6 * k)) (hL : 6 * k + 6 ≤ L) (hL2 : L ≤ 3072) (hN : nxR R k dp x out x4) : lw_c25 R xs L dp x out x4 cd dd S v f g := by
  have vp1 := vp6 hx4 hL hL2 (show 1 < 6 by decide)
  have vp2 := vp6 hx4 hL hL2 (show 2 < 6 by decide)
  unfold lw_c25
  obtain ⟨y1, ey1⟩ : ∃ y1, y1 = xs (x4 + nI 1).toNatClampNeg := ⟨_, rfl⟩
  rw [← ey1]
  obtain ⟨y2, ey2⟩ : ∃ y2, y2 = xs (x4 + nI 2).toNatClampNeg := ⟨_, rfl⟩
  rw [← ey2]
  have hx6 := Rel_x (t := nI 1) (mc := 1) (ms := 6) (by decide) (by decide) hI
  have bd := Rel_bd (by omega) hx6
  have bd0 := Rel_bd (by omega) hI
  obtain ⟨ρ, WL, n, P, ks, A, yn, F, G, ad, c0, c1, n0, P0, n1, P1, hl, hr⟩ := id hI
  obtain ⟨o, so, sd, sg, made, B, ix, mg, cm, pr, sn, op, fi, w, cc, off, dn, hd, sl, m, nd, qs, w0, w1, H, sk, tk, CL, u, RR, ⟨a1, a2⟩, ⟨a3, a4⟩, ⟨a5, a6⟩, a7, a8, a9, b1, b2, b3, b7, b8⟩ := id hr
  obtain ⟨⟨i98, i97, i96, i39, i48⟩, iB, iS, iX, iM, iC, iP, iK, iZ, iW⟩ := id a7
  obtain ⟨⟨p1, p2, p3, p4, p5⟩, p6, p7, ⟨p8, p8b, p8c, p8d⟩, p9, p10, p11, p12, p13, p14⟩ := id b1
  have hlg := rL_lg hl.2.1
  have hpw := hl.2.1.1
  obtain ⟨wp, hwp⟩ := wp_ex a1.2.1
  have hwN := wp_N hwp (fun n hn => rSg_tkW iS p13 hn)
  have hwT := tkIn_mk (WL := WL) (l := lgT ks A yn F G) (by have := hl.2.2.1; omega) hl.2.1.2.2.2.1.2.1 p12.1
  have hok : ∀ n, n < made → ∀ d, d ∈ sg n → okD d := fun n hn => (a1.2.1 n hn).2.2.2.2.1
  have i200 : ix.1.length ≤ 200 := iX.2.1
  refine ⟨vp1, vp2, 1, 6, bd, ?_⟩
  unfold kw_L_words
  rcases wd_dec ix.1 off y1 y2 with hy | ⟨h0, a, z, fl, hz, rfl, hfl, rfl⟩
  · refine ⟨hl.1.1, Or.inr ⟨1, 6, by omega, x_words a1 a2.1 hy (by omega) (by omega) ⟨by omega, vp1, vp2, bd, ?_⟩⟩⟩
    exact p_words i98 hlg iS iX hwp hwT (fun _ => tl_x (by decide) bd upd_at (hN _ _ _ _ _ _ hx6)) (fun k' n' fl' v' g' e0 h1 _ h3 h4 h5 => (wd_no hy e0 h1 h3 h4 h5).elim)
  · subst h0
    have hn2 := a2.1 z (List.mem_of_getElem? hz)
    refine ⟨hl.1.1, Or.inl ⟨by omega, g_words a1 a2.1 hz hfl (hwp z fl hn2 hfl) (cls_out (by omega) o (fun S8 f90 o8 j8 => ⟨vp1, vp2, bd, ?_⟩))⟩⟩
    refine p_words i98 hlg iS iX hwp hwT (fun w => (wd_no w rfl hz rfl hfl rfl).elim) (fun k' n' fl' v' g' _ h1 _ h3 h4 h5 hF h99 => ?_)
    obtain ⟨rfl, rfl⟩ := pl_un i200 hz h1 h3 hfl h4 h5
    exact tl_ok bd h99 (out_X o8) j8 (hN _ _ _ _ _ _ (Rel_R (mc := 1) (ms := 6) hl hr f90 (by decide) o8 hF (by decide) (by decide) (by decide) (by decide) (by decide)))
theorem lc_26 (hI : Rel k S dp x out v f g cd dd) (hk : k < 512) (hx4 : x4 = nI (6 * k)) (hL : 6 * k + 6 ≤ L) (hL2 : L ≤ 3072) (hN : nxR R k dp x out x4) : lw_c26 R xs L dp x out x4 cd dd S v f g := by
  have vp1 := vp6 hx4 hL hL2 (show 1 < 6 by decide)
  have vp2 := vp6 hx4 hL hL2 (show 2 < 6 by decide)
  have vp3 := vp6 hx4 hL hL2 (show 3 < 6 by decide)
  unfold lw_c26
  obtain ⟨y1, ey1⟩ : ∃ y1, y1 = xs (x4 + nI 1).toNatClampNeg := ⟨_, rfl⟩
  rw [← ey1]
  obtain ⟨y2, ey2⟩ : ∃ y2, y2 = xs (x4 + nI 2).toNatClampNeg := ⟨_, rfl⟩
  rw [← ey2]
  obtain ⟨y3, ey3⟩ : ∃ y3, y3 = xs (x4 + nI 3).toNatClampNeg := ⟨_, rfl⟩
  rw [← ey3]
  have hx6 := Rel_x (t := nI 1) (mc := 1) (ms := 6) (by decide) (by decide) hI
  have bd := Rel_bd (by omega) hx6
  have bd0 := Rel_bd (by omega) hI
  obtain ⟨ρ, WL, n, P, ks, A, yn, F, G, ad, c0, c1, n0, P0, n1, P1, hl, hr⟩ := id hI
  obtain ⟨o, so, sd, sg, made, B, ix, mg, cm, pr, sn, op, fi, w, cc, off, dn, hd, sl, m, nd, qs, w0, w1, H, sk, tk, CL, u, RR, ⟨a1, a2⟩, ⟨a3, a4⟩, ⟨a5, a6⟩, a7, a8, a9, b1, b2, b3, b7, b8⟩ := id hr
  obtain ⟨⟨i98, i97, i96, i39, i48⟩, iB, iS, iX, iM, iC, iP, iK, iZ, iW⟩ := id a7
  obtain ⟨⟨p1, p2, p3, p4, p5⟩, p6, p7, ⟨p8, p8b, p8c, p8d⟩, p9, p10, p11, p12, p13, p14⟩ := id b1
  have hlg := rL_lg hl.2.1
  have hpw := hl.2.1.1
  obtain ⟨wp, hwp⟩ := wp_ex a1.2.1
  have hwN := wp_N hwp (fun n hn => rSg_tkW iS p13 hn)
  have hwT := tkIn_mk (WL := WL) (l := lgT ks A yn F G) (by have := hl.2.2.1; omega) hl.2.1.2.2.2.1.2.1 p12.1
  have hok : ∀ n, n < made → ∀ d, d ∈ sg n → okD d := fun n hn => (a1.2.1 n hn).2.2.2.2.1
  have i200 : ix.1.length ≤ 200 := iX.2.1
  refine ⟨vp1, vp2, vp3, 1, 6, bd, ?_⟩
  unfold kw_L_shared
  rcases nw_dec sg wp ix.1 off y1 y2 y3 with hy | ⟨h0, a, z, fl, j, q, hz, rfl, hfl, rfl, hq, rfl⟩
  · refine ⟨hl.1.1, Or.inr ⟨1, 6, by omega, x_shared a1 a2.1 (nw_cls hwp a2.1 hy) (by omega) (by omega) ⟨by omega, vp1, vp2, vp3, bd, ?_⟩⟩⟩
    exact p_shared hpw i98 hlg iS iX hwp hwN hwT (fun _ v' g' hF h99 => tl_x (by decide) bd h99 (hN _ _ _ _ _ _ (Rel_R (mc := 1) (ms := 6) hl hr (M := []) fr_rf (by decide) o hF (by decide) (by decide) (by decide) (by decide) (by decide)))) (fun k' n' fl' j' q' v' g' e0 h1 _ h3 h4 h5 h6 h7 => (nw_no i200 hy e0 h1 h3 h4 h5 h6 h7).elim)
  · subst h0
    have hn2 := a2.1 z (List.mem_of_getElem? hz)
    refine ⟨hl.1.1, Or.inl ⟨by omega, g_shared a1 a2.1 hz hfl (hwp z fl hn2 hfl) (fun i y hy => Wn_of hwN hn2 hfl hy) (get_lt hq) (cls_out (by omega) o (fun S8 f90 o8 j8 => ⟨vp1, vp2, vp3, bd, ?_⟩))⟩⟩
    refine p_shared hpw i98 hlg iS iX hwp hwN hwT (fun w => (nw_no i200 w rfl hz rfl hfl rfl hq rfl).elim) (fun k' n' fl' j' q' v' g' _ h1 _ h3 h4 h5 h6 h7 hF h99 => ?_)
    obtain ⟨rfl, rfl, rfl, rfl⟩ := nw_un i200 hwp hwT hn2 hz h1 h3 hfl h4 h5 hq h6 h7
    exact tl_ok bd h99 (out_X o8) j8 (hN _ _ _ _ _ _ (Rel_R (mc := 1) (ms := 6) hl hr f90 (by decide) o8 hF (by decide) (by decide) (by decide) (by decide) (by decide)))
theorem lc_27 (hI : Rel k S dp x out v f g cd dd) (hk : k < 512) (hx4 : x4 = nI (6 * k)) (hL : 6 * k + 6 ≤ L) (hL2 : L ≤ 3072) (hN : nxR R k dp x out x4) : lw_c27 R xs L dp x out x4 cd dd S v f g := by
  have vp1 := vp6 hx4 hL hL2 (show 1 < 6 by decide)
  have vp2 := vp6 hx4 hL hL2 (show 2 < 6 by decide)
  unfold lw_c27
  obtain ⟨y1, ey1⟩ : ∃ y1, y1 = xs (x4 + nI 1).toNatClampNeg := ⟨_, rfl⟩
  rw [← ey1]
  obtain ⟨y2, ey2⟩ : ∃ y2, y2 = xs (x4 + nI 2).toNatClampNeg := ⟨_, rfl⟩
  rw [← ey2]
  have hx6 := Rel_x (t := nI 1) (mc := 1) (ms := 6) (by decide) (by decide) hI
  have bd := Rel_bd (by omega) hx6
  have bd0 := Rel_bd (by omega) hI
  obtain ⟨ρ, WL, n, P, ks, A, yn, F, G, ad, c0, c1, n0, P0, n1, P1, hl, hr⟩ := id hI
  obtain ⟨o, so, sd, sg, made, B, ix, mg, cm, pr, sn, op, fi, w, cc, off, dn, hd, sl, m, nd, qs, w0, w1, H, sk, tk, CL, u, RR, ⟨a1, a2⟩, ⟨a3, a4⟩, ⟨a5, a6⟩, a7, a8, a9, b1, b2, b3, b7, b8⟩ := id hr
  obtain ⟨⟨i98, i97, i96, i39, i48⟩, iB, iS, iX, iM, iC, iP, iK, iZ, iW⟩ := id a7
  obtain ⟨⟨p1, p2, p3, p4, p5⟩, p6, p7, ⟨p8, p8b, p8c, p8d⟩, p9, p10, p11, p12, p13, p14⟩ := id b1
  have hlg := rL_lg hl.2.1
  have hpw := hl.2.1.1
  obtain ⟨wp, hwp⟩ := wp_ex a1.2.1
  have hwN := wp_N hwp (fun n hn => rSg_tkW iS p13 hn)
  have hwT := tkIn_mk (WL := WL) (l := lgT ks A yn F G) (by have := hl.2.2.1; omega) hl.2.1.2.2.2.1.2.1 p12.1
  have hok : ∀ n, n < made → ∀ d, d ∈ sg n → okD d := fun n hn => (a1.2.1 n hn).2.2.2.2.1
  have i200 : ix.1.length ≤ 200 := iX.2.1
  refine ⟨vp1, vp2, 1, 6, bd, ?_⟩
  unfold kw_L_wordBytes
  rcases wd_dec ix.1 off y1 y2 with hy | ⟨h0, a, z, fl, hz, rfl, hfl, rfl⟩
  · refine ⟨hl.1.1, Or.inr ⟨1, 6, by omega, x_wordBytes a1 a2.1 hy (by omega) (by omega) ⟨by omega, vp1, vp2, bd, ?_⟩⟩⟩
    exact p_wordBytes hpw i98 hlg iS iX hwp hwN hwT (fun _ => tl_x (by decide) bd upd_at (hN _ _ _ _ _ _ hx6)) (fun k' n' fl' v' g' e0 h1 _ h3 h4 h5 => (wd_no hy e0 h1 h3 h4 h5).elim)
  · subst h0
    have hn2 := a2.1 z (List.mem_of_getElem? hz)
    refine ⟨hl.1.1, Or.inl ⟨by omega, g_wordBytes a1 a2.1 hz hfl (hwp z fl hn2 hfl) (fun i y hy => Wn_of hwN hn2 hfl hy) (cls_out (by omega) o (fun S8 f90 o8 j8 => ⟨vp1, vp2, bd, ?_⟩))⟩⟩
    refine p_wordBytes hpw i98 hlg iS iX hwp hwN hwT (fun w => (wd_no w rfl hz rfl hfl rfl).elim) (fun k' n' fl' v' g' _ h1 _ h3 h4 h5 hF h99 => ?_)
    obtain ⟨rfl, rfl⟩ := pl_un i200 hz h1 h3 hfl h4 h5
    exact tl_ok bd h99 (out_X o8) j8 (hN _ _ _ _ _ _ (Rel_R (mc := 1) (ms := 6) hl hr f90 (by decide) o8 hF (by decide) (by decide) (by decide) (by decide) (by decide)))
theorem lc_28 (hI : Rel k S dp x out v f g cd dd) (hk : k < 512) (hx4 : x4 = nI (6 * k)) (hL : 6 * k + 6 ≤ L) (hL2 : L ≤ 3072) (hN : nxR R k dp x out x4) : lw_c28 R xs L dp x out x4 cd dd S v f g := by
  have vp1 := vp6 hx4 hL hL2 (show 1 < 6 by decide)
  have vp2 := vp6 hx4 hL hL2 (show 2 < 6 by decide)
  have vp3 := vp6 hx4 hL hL2 (show 3 < 6 by decide)
  have vp4 := vp6 hx4 hL hL2 (show 4 < 6 by decide)
  unfold lw_c28
  obtain ⟨y1, ey1⟩ : ∃ y1, y1 = xs (x4 + nI 1).toNatClampNeg := ⟨_, rfl⟩
  rw [← ey1]
  obtain ⟨y2, ey2⟩ : ∃ y2, y2 = xs (x4 + nI 2).toNatClampNeg := ⟨_, rfl⟩
  rw [← ey2]
  obtain ⟨y3, ey3⟩ : ∃ y3, y3 = xs (x4 + nI 3).toNatClampNeg := ⟨_, rfl⟩
  rw [← ey3]
  obtain ⟨y4, ey4⟩ : ∃ y4, y4 = xs (x4 + nI 4).toNatClampNeg := ⟨_, rfl⟩
  rw [← ey4]
  have hx6 := Rel_x (t := nI 1) (mc := 1) (ms := 6) (by decide) (by decide) hI
  have bd := Rel_bd (by omega) hx6
  have bd0 := Rel_bd (by omega) hI
  obtain ⟨ρ, WL, n, P, ks, A, yn, F, G, ad, c0, c1, n0, P0, n1, P1, hl, hr⟩ := id hI
  obtain ⟨o, so, sd, sg, made, B, ix, mg, cm, pr, sn, op, fi, w, cc, off, dn, hd, sl, m, nd, qs, w0, w1, H, sk, tk, CL, u, RR, ⟨a1, a2⟩, ⟨a3, a4⟩, ⟨a5, a6⟩, a7, a8, a9, b1, b2, b3, b7, b8⟩ := id hr
  obtain ⟨⟨i98, i97, i96, i39, i48⟩, iB, iS, iX, iM, iC, iP, iK, iZ, iW⟩ := id a7
  obtain ⟨⟨p1, p2, p3, p4, p5⟩, p6, p7, ⟨p8, p8b, p8c, p8d⟩, p9, p10, p11, p12, p13, p14⟩ := id b1
  have hlg := rL_lg hl.2.1
  have hpw := hl.2.1.1
  obtain ⟨wp, hwp⟩ := wp_ex a1.2.1
  have hwN := wp_N hwp (fun n hn => rSg_tkW iS p13 hn)
  have hwT := tkIn_mk (WL := WL) (l := lgT ks A yn F G) (by have := hl.2.2.1; omega) hl.2.1.2.2.2.1.2.1 p12.1
  have hok : ∀ n, n < made → ∀ d, d ∈ sg n → okD d := fun n hn => (a1.2.1 n hn).2.2.2.2.1
  have i200 : ix.1.length ≤ 200 := iX.2.1
  refine ⟨vp1, vp2, vp3, vp4, 1, 6, bd, ?_⟩
  unfold kw_L_signAt
  rcases nw_dec sg wp ix.1 off y1 y2 y3 with hy | ⟨h0, a, z, fl, j, q, hz, rfl, hfl, rfl, hq, rfl⟩
  · refine ⟨hl.1.1, Or.inr ⟨1, 6, by omega, x_signAt a1 a2.1 (nw_cls hwp a2.1 hy) (by omega) (by omega) ⟨by omega, vp1, vp2, vp3, vp4, bd, ?_⟩⟩⟩
    exact p_signAt hpw i98 hlg iS iX hwp hwN hwT (fun _ v' g' hF h99 => tl_x (by decide) bd h99 (hN _ _ _ _ _ _ (Rel_R (mc := 1) (ms := 6) hl hr (M := []) fr_rf (by decide) o hF (by decide) (by decide) (by decide) (by decide) (by decide)))) (fun k' n' fl' j' q' v' g' e0 h1 _ h3 h4 h5 h6 h7 => (nw_no i200 hy e0 h1 h3 h4 h5 h6 h7).elim)
  · subst h0
    have hn2 := a2.1 z (List.mem_of_getElem? hz)
    obtain ⟨w1, w2⟩ := Wn_of hwN hn2 hfl hq
    refine ⟨hl.1.1, Or.inl ⟨by omega, g_signAt a1 a2.1 hz hfl (hwp z fl hn2 hfl) hq w1 w2 (cls_out (by omega) o (fun S8 f90 o8 j8 => ⟨vp1, vp2, vp3, vp4, bd, ?_⟩))⟩⟩
    refine p_signAt hpw i98 hlg iS iX hwp hwN hwT (fun w => (nw_no i200 w rfl hz rfl hfl rfl hq rfl).elim) (fun k' n' fl' j' q' v' g' _ h1 _ h3 h4 h5 h6 h7 hF h99 => ?_)
    obtain ⟨rfl, rfl, rfl, rfl⟩ := nw_un i200 hwp hwT hn2 hz h1 h3 hfl h4 h5 hq h6 h7
    exact tl_ok bd h99 (out_X o8) j8 (hN _ _ _ _ _ _ (Rel_R (mc := 1) (ms := 6) hl hr f90 (by decide) o8 hF (by decide) (by decide) (by decide) (by decide) (by decide)))
theorem lc_29 (hI : Rel k S dp x out v f g cd dd) (hk : k < 512) (hx4 : x4 = nI (6 * k)) (hL : 6 * k + 6 ≤ L) (hL2 : L ≤ 3072) (hN : nxR R k dp x out x4) : lw_c29 R xs L dp x out x4 cd dd S v f g := by
  have vp1 := vp6 hx4 hL hL2 (show 1 < 6 by decide)
  have vp2 := vp6 hx4 hL hL2 (show 2 < 6 by decide)
  have vp3 := vp6 hx4 hL hL2 (show 3 < 6 by decide)
  unfold lw_c29
  obtain ⟨y1, ey1⟩ : ∃ y1, y1 = xs (x4 + nI 1).toNatClampNeg := ⟨_, rfl⟩
  rw [← ey1]
  obtain ⟨y2, ey2⟩ : ∃ y2, y2 = xs (x4 + nI 2).toNatClampNeg := ⟨_, rfl⟩
  rw [← ey2]
  obtain ⟨y3, ey3⟩ : ∃ y3, y3 = xs (x4 + nI 3).toNatClampNeg := ⟨_, rfl⟩
  rw [← ey3]
  have hx6 := Rel_x (t := nI 1) (mc := 1) (ms := 6) (by decide) (by decide) hI
  have bd := Rel_bd (by omega) hx6
  have bd0 := Rel_bd (by omega) hI
  obtain ⟨ρ, WL, n, P, ks, A, yn, F, G, ad, c0, c1, n0, P0, n1, P1, hl, hr⟩ := id hI
  obtain ⟨o, so, sd, sg, made, B, ix, mg, cm, pr, sn, op, fi, w, cc, off, dn, hd, sl, m, nd, qs, w0, w1, H, sk, tk, CL, u, RR, ⟨a1, a2⟩, ⟨a3, a4⟩, ⟨a5, a6⟩, a7, a8, a9, b1, b2, b3, b7, b8⟩ := id hr
  obtain ⟨⟨i98, i97, i96, i39, i48⟩, iB, iS, iX, iM, iC, iP, iK, iZ, iW⟩ := id a7
  obtain ⟨⟨p1, p2, p3, p4, p5⟩, p6, p7, ⟨p8, p8b, p8c, p8d⟩, p9, p10, p11, p12, p13, p14⟩ := id b1
  have hlg := rL_lg hl.2.1
  have hpw := hl.2.1.1
  obtain ⟨wp, hwp⟩ := wp_ex a1.2.1
  have hwN := wp_N hwp (fun n hn => rSg_tkW iS p13 hn)
  have hwT := tkIn_mk (WL := WL) (l := lgT ks A yn F G) (by have := hl.2.2.1; omega) hl.2.1.2.2.2.1.2.1 p12.1
  have hok : ∀ n, n < made → ∀ d, d ∈ sg n → okD d := fun n hn => (a1.2.1 n hn).2.2.2.2.1
  have i200 : ix.1.length ≤ 200 := iX.2.1
  refine ⟨vp1, vp2, vp3, 1, 6, bd, ?_⟩
  unfold kw_L_bytes
  rcases nw_dec sg wp ix.1 off y1 y2 y3 with hy | ⟨h0, a, z, fl, j, q, hz, rfl, hfl, rfl, hq, rfl⟩
  · refine ⟨hl.1.1, Or.inr ⟨1, 6, by omega, x_bytes a1 a2.1 (nw_cls hwp a2.1 hy) (by omega) (by omega) ⟨by omega, vp1, vp2, vp3, bd, ?_⟩⟩⟩
    exact p_bytes i98 hlg iS iX hwp hok hwT (fun _ v' g' hF h99 => tl_x (by decide) bd h99 (hN _ _ _ _ _ _ (Rel_R (mc := 1) (ms := 6) hl hr (M := []) fr_rf (by decide) o hF (by decide) (by decide) (by decide) (by decide) (by decide)))) (fun k' n' fl' j' q' v' f' g' e0 h1 _ h3 h4 h5 h6 h7 => (nw_no i200 hy e0 h1 h3 h4 h5 h6 h7).elim)
  · subst h0
    have hn2 := a2.1 z (List.mem_of_getElem? hz)
    refine ⟨hl.1.1, Or.inl ⟨by omega, g_bytes a1 a2.1 hz hfl (hwp z fl hn2 hfl) hq (cls_out (by omega) o (fun S8 f90 o8 j8 => ⟨vp1, vp2, vp3, bd, ?_⟩))⟩⟩
    refine p_bytes i98 hlg iS iX hwp hok hwT (fun w => (nw_no i200 w rfl hz rfl hfl rfl hq rfl).elim) (fun k' n' fl' j' q' v' f' g' _ h1 _ h3 h4 h5 h6 h7 hF h99 => ?_)
    obtain ⟨rfl, rfl, rfl, rfl⟩ := nw_un i200 hwp hwT hn2 hz h1 h3 hfl h4 h5 hq h6 h7
    exact tl_ok bd h99 (out_X o8) j8 (hN _ _ _ _ _ _ (Rel_R (mc := 1) (ms := 6) hl hr f90 (by decide) o8 hF (by decide) (by decide) (by decide) (by decide) (by decide)))
theorem lc_30 (hI : Rel k S dp x out v f g cd dd) (hk : k < 512) (hx4 : x4 = nI (6 * k)) (hL : 6 * k + 6 ≤ L) (hL2 : L ≤ 3072) (hN : nxR R k dp x out x4) : lw_c30 R xs L dp x out x4 cd dd S v f g := by
  have vp1 := vp6 hx4 hL hL2 (show 1 < 6 by decide)
  have vp2 := vp6 hx4 hL hL2 (show 2 < 6 by decide)
  have vp3 := vp6 hx4 hL hL2 (show 3 < 6 by decide)
  have vp4 := vp6 hx4 hL hL2 (show 4 < 6 by decide)
  unfold lw_c30
  obtain ⟨y1, ey1⟩ : ∃ y1, y1 = xs (x4 + nI 1).toNatClampNeg := ⟨_, rfl⟩
  rw [← ey1]
  obtain ⟨y2, ey2⟩ : ∃ y2, y2 = xs (x4 + nI 2).toNatClampNeg := ⟨_, rfl⟩
  rw [← ey2]
  obtain ⟨y3, ey3⟩ : ∃ y3, y3 = xs (x4 + nI 3).toNatClampNeg := ⟨_, rfl⟩
  rw [← ey3]
  obtain ⟨y4, ey4⟩ : ∃ y4, y4 = xs (x4 + nI 4).toNatClampNeg := ⟨_, rfl⟩
  rw [← ey4]
  have hx6 := Rel_x (t := nI 1) (mc := 1) (ms := 6) (by decide) (by decide) hI
  have bd := Rel_bd (by omega) hx6
  have bd0 := Rel_bd (by omega) hI
  obtain ⟨ρ, WL, n, P, ks, A, yn, F, G, ad, c0, c1, n0, P0, n1, P1, hl, hr⟩ := id hI
  obtain ⟨o, so, sd, sg, made, B, ix, mg, cm, pr, sn, op, fi, w, cc, off, dn, hd, sl, m, nd, qs, w0, w1, H, sk, tk, CL, u, RR, ⟨a1, a2⟩, ⟨a3, a4⟩, ⟨a5, a6⟩, a7, a8, a9, b1, b2, b3, b7, b8⟩ := id hr
  obtain ⟨⟨i98, i97, i96, i39, i48⟩, iB, iS, iX, iM, iC, iP, iK, iZ, iW⟩ := id a7
  obtain ⟨⟨p1, p2, p3, p4, p5⟩, p6, p7, ⟨p8, p8b, p8c, p8d⟩, p9, p10, p11, p12, p13, p14⟩ := id b1
  have hlg := rL_lg hl.2.1
  have hpw := hl.2.1.1
  obtain ⟨wp, hwp⟩ := wp_ex a1.2.1
  have hwN := wp_N hwp (fun n hn => rSg_tkW iS p13 hn)
  have hwT := tkIn_mk (WL := WL) (l := lgT ks A yn F G) (by have := hl.2.2.1; omega) hl.2.1.2.2.2.1.2.1 p12.1
  have hok : ∀ n, n < made → ∀ d, d ∈ sg n → okD d := fun n hn => (a1.2.1 n hn).2.2.2.2.1
  have i200 : ix.1.length ≤ 200 := iX.2.1
  have xc : (noWd sg ix.1 wp off y1 y2 y3 ∨ ∃ k n fl j q, off = false ∧ ix.1[k]? = some n ∧ y1 = nI k ∧ fl < 2 ∧ y2 = nI fl ∧ (wp n fl)[j]? = some q ∧ y3 = nI j ∧ ∀ i, i < ((encN (nmN 0 q.2)).length + 7) / 8 → y4 ≠ nI i) ∨ (off = false ∧ ∃ a n fl j q i, ix.1[a]? = some n ∧ y1 = nI a ∧ fl < 2 ∧ y2 = nI fl ∧ (wp n fl)[j]? = some q ∧ y3 = nI j ∧ i < ((encN (nmN 0 q.2)).length + 7) / 8 ∧ y4 = nI i) := by
    rcases nw_dec sg wp ix.1 off y1 y2 y3 with hy | ⟨h0, a, z, fl, j, q, hz, e1, hfl, e2, hq, e3⟩
    · exact Or.inl (Or.inl hy)
    · by_cases c : ∃ i, i < ((encN (nmN 0 q.2)).length + 7) / 8 ∧ y4 = nI i
      · obtain ⟨i, hi, e4⟩ := c
        exact Or.inr ⟨h0, a, z, fl, j, q, i, hz, e1, hfl, e2, hq, e3, hi, e4⟩
      · exact Or.inl (Or.inr ⟨a, z, fl, j, q, h0, hz, e1, hfl, e2, hq, e3, fun i h1 h2 => c ⟨i, h1, h2⟩⟩)
  have xn : ∀ {a n fl j i : Nat} {q : Int64 × List (Nat × Nat)}, (noWd sg ix.1 wp off y1 y2 y3 ∨ ∃ k n fl j q, off = false ∧ ix.1[k]? = some n ∧ y1 = nI k ∧ fl < 2 ∧ y2 = nI fl ∧ (wp n fl)[j]? = some q ∧ y3 = nI j ∧ ∀ i, i < ((encN (nmN 0 q.2)).length + 7) / 8 → y4 ≠ nI i) → off = false → ix.1[a]? = some n → y1 = nI a → fl < 2 → y2 = nI fl → (wp n fl)[j]? = some q → y3 = nI j → i < ((encN (nmN 0 q.2)).length + 7) / 8 → y4 = nI i → False := fun h e0 h1 h3 h4 h5 h6 h7 h8 h9 => by
    rcases h with hy | ⟨a', z', fl', j', q', _, g1, g2, g3, g4, g5, g6, g7⟩
    · exact nw_no i200 hy e0 h1 h3 h4 h5 h6 h7
    · obtain ⟨rfl, rfl, rfl, rfl⟩ := nw_un i200 hwp hwT (a2.1 _ (List.mem_of_getElem? h1)) h1 g1 (h3.symm.trans g2) h4 g3 (h5.symm.trans g4) h6 g5 (h7.symm.trans g6)
      exact g7 _ h8 h9
  refine ⟨vp1, vp2, vp3, vp4, 1, 6, bd, ?_⟩
  unfold kw_L_byteAt
  rcases xc with hy | ⟨h0, a, z, fl, j, q, i, hz, e1, hfl, e2, hq, e3, hi, e4⟩
  · refine ⟨hl.1.1, Or.inr ⟨1, 6, by omega, x_byteAt a1 a2.1 ?_ (by omega) (by omega) ⟨by omega, vp1, vp2, vp3, vp4, bd, ?_⟩⟩⟩
    · rcases id hy with h | ⟨k', n', fl', j', q', g0, g1, g2, g3, g4, g5, g6, g7⟩
      · exact Or.inl (nw_cls hwp a2.1 h)
      · exact Or.inr ⟨g0, k', n', fl', wp n' fl', j', q', g1, g2, g3, g4, hwp n' fl' (a2.1 n' (List.mem_of_getElem? g1)) g3, g5, g6, g7⟩
    · exact p_byteAt i98 hlg iS iX hwp hok hwT (fun _ v' f' g' hF h99 => tl_x (by decide) bd h99 (hN _ _ _ _ _ _ (Rel_R (mc := 1) (ms := 6) hl hr (M := []) fr_rf (by decide) o hF (by decide) (by decide) (by decide) (by decide) (by decide)))) (fun k' n' fl' j' q' i' v' f' g' e0 h1 _ h3 h4 h5 h6 h7 h8 h9 => (xn hy e0 h1 h3 h4 h5 h6 h7 h8 h9).elim)
  · subst h0
    have hn2 := a2.1 z (List.mem_of_getElem? hz)
    have el := enc_len hwp hok (iS.2.2 z hn2).2.1 hn2 hfl hq
    rw [e1, e2, e3, e4]
    refine ⟨hl.1.1, Or.inl ⟨by omega, g_byteAt a1 a2.1 hz hfl (hwp z fl hn2 hfl) hq hi (cls_out (by omega) o (fun S8 f90 o8 j8 => ⟨vp1, vp2, vp3, vp4, bd, ?_⟩))⟩⟩
    refine p_byteAt i98 hlg iS iX hwp hok hwT (fun w => (xn (by rw [e1, e2, e3, e4]; exact w) rfl hz e1 hfl e2 hq e3 hi e4).elim) (fun k' n' fl' j' q' i' v' f' g' _ h1 _ h3 h4 h5 h6 h7 h8 h9 hF h99 => ?_)
    obtain ⟨rfl, rfl, rfl, rfl⟩ := nw_un i200 hwp hwT hn2 hz h1 h3 hfl h4 h5 hq h6 h7
    obtain rfl : i = i' := (nI_eq (by omega) (by omega)).mp h9
    exact tl_ok bd h99 (out_X o8) j8 (hN _ _ _ _ _ _ (Rel_R (mc := 1) (ms := 6) hl hr f90 (by decide) o8 hF (by decide) (by decide) (by decide) (by decide) (by decide)))
end CASP
