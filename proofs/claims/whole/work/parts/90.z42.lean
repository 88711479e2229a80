/-! both worlds together: add -/
theorem tkL_ext {F S : Nat → Int64} {yn : Nat} {stp : Int64 → Bool} {st st' : Nat → Int64} : ∀ {n : Nat}, (∀ q, q < n → st' q = st q) → tkL F S yn stp st' n = tkL F S yn stp st n
  | 0, _ => rfl
  | n + 1, h => by
    rw [tkL, tkL, tkL_ext (n := n) (fun q hq => h q (by omega)), h n (Nat.lt_succ_self n)]
theorem wdC_0 (P : Nat → Nat) : wdC P 0 = 0 := by
  have := wdC_le P 0
  omega
section CASK
variable {S T U S8 : cS} {v v' : Nat → Int32} {f f' : Nat → Nat → Int32} {g g' : Nat → Nat → Int64} {dp x out k cd dd L : Nat} {x4 : Int32} {xs : Nat → Int32} {R : Int32 → Nat → Nat → cS → (Nat → Int32) → (Nat → Nat → Int32) → (Nat → Nat → Int64) → Prop}
variable {n : Nat} {P : Nat → Nat} {ks : Nat} {A : Nat → Int64} {yn : Nat} {F G : Nat → Int64} {ad : Bool} {c0 c1 n0 : Nat} {P0 : Nat → Nat} {n1 : Nat} {P1 : Nat → Nat} {WL : List Int64}
/-- the draft as a document -/
noncomputable def drD (ks : Nat) (A : Nat → Int64) (yn : Nat) (F G : Nat → Int64) (c0 c1 n0 : Nat) (P0 : Nat → Nat) (n1 : Nat) (P1 : Nat → Nat) : Dc := mkD ks A yn F G 0 c0 c1 n0 P0 n1 P1
theorem rL_dr (h : rL v f g n P ks A yn F G ad c0 c1 n0 P0 n1 P1) (h0 : n0 ≤ 40) (h1 : n1 ≤ 40) : rDr (lgT ks A yn F G) v f g (drD ks A yn F G c0 c1 n0 P0 n1 P1) := by
  obtain ⟨a1, a2, a3, a4, a5, a6, a7, a8, a9⟩ := h
  have w0 := wdC_le P0 n0
  have w1 := wdC_le P1 n1
  refine ⟨a6, a7, fun fl hfl => ?_⟩
  rcases (show fl = 0 ∨ fl = 1 by omega) with rfl | rfl
  · refine ⟨wdC P0 n0, by omega, a8.1, ?_, fun q hq => ⟨_, stW_37 _ (wdW_lt P0 n0 q), ?_⟩⟩
    · exact (tkL_ext (fun q hq => by
        have := a8.2 q hq
        rw [show 40 * 0 + (20 * 0 + q) = 20 * 0 + q by omega]; exact this)).symm
    · have := a8.2 q hq
      rw [show 40 * 0 + (20 * 0 + q) = 20 * 0 + q by omega]; exact this
  · refine ⟨wdC P1 n1, by omega, a9.1, ?_, fun q hq => ⟨_, stW_37 _ (wdW_lt P1 n1 q), ?_⟩⟩
    · exact (tkL_ext (fun q hq => by
        have := a9.2 q hq
        rw [show 40 * 0 + (20 * 1 + q) = 20 * 1 + q by omega]; exact this)).symm
    · have := a9.2 q hq
      rw [show 40 * 0 + (20 * 1 + q) = 20 * 1 + q by omega]; exact this
theorem dr_tIn {key : Nat} (h0 : wIn WL n0 P0) (h1 : wIn WL n1 P1) : tIn WL (lgT ks A yn F G) (mkD ks A yn F G key c0 c1 n0 P0 n1 P1) := by
  have gen : ∀ (nn : Nat) (PP : Nat → Nat) (x : Int64 × Nat), wIn WL nn PP → x ∈ tkL F G yn (fun c => anyB (fun j => A j == c) ks) (fun k => lN (stW (wdW PP nn k))) (wdC PP nn) → x.1 ∈ WL ∨ ∃ i, i < yn ∧ x.1 = G i := fun nn PP x hw hx => by
    obtain ⟨h1, -, h3⟩ := (tkL_mem (c := x.1) (q := x.2)).mp hx
    rcases h3 with h3 | ⟨i, h4, -, h6⟩
    · rw [h3]; exact Or.inl (hw _ h1)
    · exact Or.inr ⟨i, h4, h6.symm⟩
  intro fl x hx
  unfold dT at hx
  split at hx
  · exact gen n0 P0 x h0 hx
  · exact gen n1 P1 x h1 hx
/-- behind a deletion nothing has the key -/
theorem dkR_no {sg : Nat → List Dc} {ids : List Nat} {key : Nat} {B B' : List Dc} {lv lv' : Nat → Nat → Bool} {b : Bool} (hk : key < 100) (hb : ∀ d, d ∈ B → dK d < 100) (hs : ∀ n, n ∈ ids → ∀ d, d ∈ sg n → dK d < 100) (hub : ∀ (i i' : Nat) (d d' : Dc), B[i]? = some d → B[i']? = some d' → dK d = dK d' → i = i') (hu : oneK sg ids lv key) (hux : ∀ d, d ∈ B → ∀ (n j : Nat) (d' : Dc), n ∈ ids → (sg n)[j]? = some d' → lv n j = true → dK d' ≠ dK d) (h : dkR sg ids (nI key) B lv B' lv' b) : (∀ d, d ∈ B' → dK d ≠ key) ∧ ∀ (n j : Nat) (d : Dc), n ∈ ids → (sg n)[j]? = some d → lv' n j = true → dK d ≠ key := by
  have inj : ∀ {a : Nat}, a < 100 → nI a = nI key → a = key := fun ha e => (nI_eq (by omega) (by omega)).mp e
  rcases h with ⟨i, d, e1, e2, rfl, rfl, e5⟩ | ⟨e0, rfl, h1⟩
  · have ek := inj (hb d (List.mem_of_getElem? e1)) e2
    refine ⟨fun d' hd' e => ?_, fun n j d' h1 h2 h3 e => hux d (List.mem_of_getElem? e1) n j d' h1 h2 h3 (e.trans ek.symm)⟩
    obtain ⟨j, hj⟩ := List.mem_iff_getElem?.mp hd'
    rw [er_get] at hj
    split at hj
    · have := hub j i d' d hj e1 (e.trans ek.symm); omega
    · have := hub (j + 1) i d' d hj e1 (e.trans ek.symm); omega
  · refine ⟨fun d hd e => e0 d hd (by rw [e]), fun n j d h2 h3 h4 e => ?_⟩
    rcases h1 with ⟨n', j', d', k1, k2, k3, k4, rfl, -⟩ | ⟨k0, rfl, -⟩
    · have h4 : (if n = n' ∧ j = j' then false else lv n j) = true := h4
      by_cases c : n = n' ∧ j = j'
      · rw [if_pos c] at h4; exact absurd h4 (by decide)
      · rw [if_neg c] at h4
        exact c (hu n j d n' j' d' h2 k1 h3 k2 h4 k3 e (inj (hs n' k1 d' (List.mem_of_getElem? k2)) k4))
    · exact k0 n j d h2 h3 h4 (by rw [e])
theorem lc_6 (hI : Rel k S dp x out v f g cd dd) (hk : k < 512) (hx4 : x4 = nI (6 * k)) (hL : 6 * k + 6 ≤ L) (hL2 : L ≤ 3072) (hN : nxR R k dp x out x4) : lw_c6 R xs L dp x out x4 cd dd S v f g := by
  have vp1 := vp6 hx4 hL hL2 (show 1 < 6 by decide)
  unfold lw_c6
  obtain ⟨y1, ey1⟩ : ∃ y1, y1 = xs (x4 + nI 1).toNatClampNeg := ⟨_, rfl⟩
  rw [← ey1]
  have hx6 := Rel_x (t := nI 1) (mc := 1) (ms := 6) (by decide) (by decide) hI
  have bd := Rel_bd (by omega) hx6
  have bd0 := Rel_bd (by omega) hI
  obtain ⟨ρ, WL, n, P, ks, A, yn, F, G, ad, c0, c1, n0, P0, n1, P1, hl, hr⟩ := id hI
  obtain ⟨o, so, sd, sg, made, B, ix, mg, cm, pr, sn, op, fi, w, cc, off, dn, hd, sl, m, nd, qs, w0, w1, H, sk, tk, CL, u, RR, ⟨a1, a2⟩, ⟨a3, a4⟩, ⟨a5, a6⟩, a7, a8, a9, b1, b2, b3, b7, b8⟩ := id hr
  obtain ⟨⟨i98, i97, i96, i39, i48⟩, iB, iS, iX, iM, iC, iP, iK, iZ, iW⟩ := id a7
  obtain ⟨⟨p1, p2, p3, p4, p5⟩, p6, p7, ⟨p8, p8b, p8c, p8d⟩, p9, p10, p11, p12, p13, p14⟩ := id b1
  obtain ⟨l1, l2, l3, l4, l5, l6⟩ := id hl
  have hx62 := Rel_x (t := nI 2) (mc := 455) (ms := 3670) (by decide) (by decide) hI
  have hx61 := Rel_x (t := nI 1) (mc := 455) (ms := 3670) (by decide) (by decide) hI
  have bd2 := Rel_bd (by omega) hx61
  obtain ⟨n40, n41⟩ := gLD_n l1
  have hdr := rL_dr l2 n40 n41
  refine ⟨vp1, 455, 3670, bd2, ?_⟩
  unfold kw_L_add
  by_cases hy : ∃ a, a < 100 ∧ y1 = nI a
  · obtain ⟨a, ha, rfl⟩ := hy
    have hin : inB (nI a) (nI 0) (nI 99) = true := (inB_ex (by decide) (by decide)).mpr ⟨a, Nat.zero_le _, by omega, rfl⟩
    by_cases hfull : off = true ∨ (12 ≤ B.length ∧ ∀ d, d ∈ B → nI (dK d) ≠ nI a)
    · have h12 := iB.2.1
      refine ⟨hl.1.1, Or.inr (Or.inr ⟨455, 3670, by omega, x_addS a1 (hfull.imp (fun z => z) (fun z => ⟨by omega, fun d hd e => z.2 d hd (by rw [e])⟩)) (rBf_key iB) ha (by omega) (by omega) ⟨by omega, vp1, bd2, ?_⟩⟩)⟩
      refine p_add i98 iB iS iX hdr p1.2 p6.1 p6.2 (fun w => by rw [hin] at w; exact absurd w (by decide)) (fun _ _ => tl_x (by decide) bd2 upd_at (hN _ _ _ _ _ _ hx62)) (fun key v' f' g' B' lv' b e ek e0 hroom => ?_)
      exfalso
      obtain rfl : a = key := (nI_eq (by omega) (by omega)).mp e
      rcases hfull with z | ⟨z1, z2⟩
      · rw [z] at e0; exact absurd e0 (by decide)
      · rcases hroom with h | ⟨d, h1, h2⟩
        · omega
        · exact z2 d h1 (by rw [h2])
    · have hoff : off = false := by
        cases off with
        | true => exact absurd (Or.inl rfl) hfull
        | false => rfl
      subst hoff
      have hroom : B.length < 12 ∨ ∃ d, d ∈ B ∧ nI (dK d) = nI a := by
        rcases Nat.lt_or_ge B.length 12 with z | z
        · exact Or.inl z
        · by_cases q : ∃ d, d ∈ B ∧ nI (dK d) = nI a
          · exact Or.inr q
          · exact absurd (Or.inr ⟨z, fun d h1 h2 => q ⟨d, h1, h2⟩⟩) hfull
      obtain ⟨⟨g1, g2, g3⟩, gs, gb, ⟨V, gv1, gv2⟩, ⟨go1, go2⟩, gc, gp, gss, gci⟩ := id a1
      refine ⟨hl.1.1, Or.inl ⟨455, 3670, by omega, by omega, g_add a1 ha hroom (g_add39 (P0' := P0) (P1' := P1) l1 gb gv1 gs gv2 a2.1 p1.1 g3 ha (by have := l2.2.2.2.2.2.1.2; omega) (by have := l2.2.2.2.2.2.2.1.2; omega) (hroom.imp (fun z => by omega) (fun z => z)) (Nat.le_refl _) (Nat.le_refl _) (fun T ρ' B' lv' b' fT hdk gT gbT gvT xi xr => cls_out (by omega) (out_fr fT (by decide) o) (fun S8 f90 o8 j8 => ⟨vp1, bd2, ?_⟩)))⟩⟩
      refine p_add i98 iB iS iX hdr p1.2 p6.1 p6.2 (fun w => by rw [hin] at w; exact absurd w (by decide)) (fun _ w => absurd w hfull) (fun key v' f' g' B2 lv2 b2' e ek _ _ hF hz hv hB' hX' hdk2 => ?_)
      obtain rfl : a = key := (nI_eq (by omega) (by omega)).mp e
      obtain ⟨rfl, rfl, rfl⟩ := dkR_fn ha (rBf_key iB) (fun n hn => rSg_key iS (a2.1 n hn)) p6.1 (p1.2 a) hdk hdk2
      obtain ⟨s1, s2, s3, s4⟩ := dkR_sub hdk
      obtain ⟨t1, t2⟩ := dkR_no ha (rBf_key iB) (fun n hn => rSg_key iS (a2.1 n hn)) p6.1 (p1.2 a) p6.2 hdk
      obtain ⟨h99, h13, h14, h10, h8⟩ := hv
      obtain ⟨D, hD⟩ : ∃ D, D = mkD ks A yn F G a c0 c1 n0 P0 n1 P1 := ⟨_, rfl⟩
      have hDk : dK D = a := by rw [hD]; rfl
      have hB'' : rBf (lgT ks A yn F G) v' f' g' (B' ++ [D]) := by rw [hD]; exact hB'
      rw [← hD] at gbT
      have xρ : ρ' x = 1 := gT.2.1
      have gsT := gSegs_fr (fr_fk fT (by decide)) (by decide) gs
      have gIT : gIx T ρ' dp x so sd sg made (B' ++ [D]) (ix.1, lv') mg cm pr sn op fi w cc false := by
        refine ⟨⟨gT.1, xρ, dp_O⟩, gsT, gbT, ⟨V, (xr _ (by decide)).trans gv1, gvT⟩, ⟨?_, (xi _).trans go2⟩, ?_, ?_, gSs_fr fT (by decide) (by decide) (xr _ (by decide)) gsT a2.2.2.2.2 gss, ?_⟩
        · rw [xr _ (by decide)]; exact gOv_fr fT (by decide) gsT a2.2.1 go1
        · rw [xr _ (by decide)]; exact gOv_fr fT (by decide) gsT a2.2.2.1 gc
        · rw [xr _ (by decide)]; exact gOv_fr fT (by decide) gsT a2.2.2.2.1 gp
        · simp only [xi]; exact gci
      have hM' : ixM made (ix.1, lv') mg cm pr sn := a2
      have fU : fr S S8 ρ ρ' [1, 2, 4, 5, 6, 7, 10, 90] := fr_mix (fr_up fT (by decide)) (fr_up f90 (by decide))
      have xU : ∀ q, cr S8 q x = cr T q x := fun q => fr_cr f90 gT.1 (by rw [xρ]; decide)
      have xI : ∀ q, ci S8 q x = ci T q x := fun q => fr_ci f90 gT.1 (by rw [xρ]; decide)
      have xS : ∀ q, q ≠ 353 → cr S8 q x = cr S q x := fun q hq => (xU q).trans (xr q hq)
      obtain ⟨m1, m2, m5, m8, m12, m13, m14, m15, m16⟩ := id l2
      have hrel : Rel (k + 1) S8 dp x out v' f' g' (cd + 455) (dd + 3670) := by
        refine ⟨ρ', WL, n, P, ks, A, yn, F, G, true, 0, 0, 0, P0, 0, P1, ⟨gLD_90 f90 gT, ⟨mPow_fr (hF.2.2 1 (by decide)) m1, by rw [hF.1 2 (by decide), hF.2.1 2 (by decide)]; exact m2, by rw [hF.1 6 (by decide), hF.2.2 4 (by decide)]; exact m5, by rw [hF.1 9 (by decide), hF.2.2 5 (by decide), hF.2.2 6 (by decide)]; exact m8, h10, ⟨h13, by decide⟩, ⟨h14, by decide⟩, ⟨by rw [h8 0 (by decide), wdC_0], fun j hj => by rw [wdC_0] at hj; exact absurd hj (Nat.not_lt_zero j)⟩, ⟨by rw [h8 1 (by decide), wdC_0], fun j hj => by rw [wdC_0] at hj; exact absurd hj (Nat.not_lt_zero j)⟩⟩, by omega, fun j hj => by rw [wdC_0] at hj; exact absurd hj (Nat.not_lt_zero j), fun j hj => by rw [wdC_0] at hj; exact absurd hj (Nat.not_lt_zero j), l6⟩, o8, so, sd, sg, made, B' ++ [D], (ix.1, lv'), mg, cm, pr, sn, op, fi, w, cc, false, dn, hd, sl, m, nd, qs, w0, w1, H, sk, tk, CL, u, RR, ⟨gIx_fk (fr_fk f90 (by decide)) (by decide) hM' xρ (fun q _ => xU q) (fun q _ => xI q) gIT, hM'⟩, ⟨gPr_f fU (by decide) (by decide) (by decide) (xS _ (by decide)) a3, gQl_f fU (by decide) (by decide) (by decide) (xS _ (by decide)) a4⟩, ⟨gRd_f fU (by decide) (xS _ (by decide)) a5, gFn_f fU (by decide) (xS _ (by decide)) (xS _ (by decide)) a6⟩, ⟨⟨by rw [hF.1 98 (by decide)]; exact i98, fun q => by rw [hF.1 97 (by decide)]; exact i97 q, by rw [hF.1 96 (by decide)]; exact i96, by rw [hF.1 39 (by decide)]; exact i39, by rw [hF.1 48 (by decide)]; exact i48⟩, hB'', rS_f hF (by decide) (by decide) (by decide) iS, hX', rM_f hF (by decide) (by decide) iM, rC_f hF (by decide) (by decide) iC, rP_f hF (by decide) (by decide) iP, rK_f hF (by decide) iK, ⟨fun c hc => hz c (iZ.1 c hc), rZ_f hF (by decide) iZ.2.1, rZ_f hF (by decide) iZ.2.2.1, rZ_f hF (by decide) iZ.2.2.2.1, rZ_f hF (by decide) iZ.2.2.2.2⟩, rW_f (ix := (ix.1, lv')) hF (by decide) iW⟩, rQ_fr hF (by decide) (by decide) (by decide) a8, rFi_fr hF (by decide) (by decide) a9, ⟨⟨⟨p1.1, fun key n j d n' j' d' h1 h2 h3 h4 h5 h6 => p1.2 key n j d n' j' d' h1 h2 h3 h4 (s3 n j h5) (s3 n' j' h6)⟩, p2, p3, p4, p5⟩, ⟨fun i i' d d' h1 h2 h3 => ?_, fun d hd n j d' h1 h2 h3 => ?_⟩, p7, ⟨p8, p8b, p8c, by omega⟩, fun w => absurd w (by decide), p10, fun z => absurd z (by decide), ⟨p12.1, fun d hd => ?_⟩, p13, p14.1, ?_⟩, b2, ⟨b3.1, b3.2.1, b3.2.2.1, by have := b3.2.2.2; omega⟩, ?_, ?_⟩
        · rcases app1_get.mp h1 with h1 | ⟨e1, e2⟩ <;> rcases app1_get.mp h2 with h2 | ⟨e3, e4⟩
          · exact s4 p6.1 i i' d d' h1 h2 h3
          · rw [e4, hDk] at h3
            exact absurd h3 (t1 d (List.mem_of_getElem? h1))
          · rw [e2, hDk] at h3
            exact absurd h3.symm (t1 d' (List.mem_of_getElem? h2))
          · rw [e1, e3]
        · rcases List.mem_append.mp hd with h | h
          · exact p6.2 d (s1 d h) n j d' h1 h2 (s3 n j h3)
          · rw [List.mem_singleton.mp h, hDk]
            exact t2 n j d' h1 h2 h3
        · rcases List.mem_append.mp hd with h | h
          · exact p12.2 d (s1 d h)
          · rw [List.mem_singleton.mp h, hD]
            exact dr_tIn l4 l5
        · rw [List.length_append]
          have := p14.2
          show _ + (B'.length + 1) + _ ≤ _
          omega
        · rw [List.length_append]
          show _ + 610 * (B'.length + 1 + mgC mg) ≤ _
          omega
        · rw [List.length_append]
          show _ + 7000 * (B'.length + 1 + mgC mg) ≤ _
          omega
      exact tl_ok bd2 h99 (out_X o8) j8 (hN _ _ _ _ _ _ hrel)
  · have hno : ∀ a, a < 100 → y1 ≠ nI a := fun a h1 h2 => hy ⟨a, h1, h2⟩
    refine ⟨hl.1.1, Or.inr (Or.inl ⟨455, 3670, by omega, x_addK hno (by omega) (by omega) ⟨by omega, vp1, bd2, ?_⟩⟩)⟩
    have hin : inB y1 (nI 0) (nI 99) = false := by
      cases e : inB y1 (nI 0) (nI 99) with
      | false => rfl
      | true =>
        obtain ⟨a, -, h2, h3⟩ := (inB_ex (by decide) (by decide)).mp e
        exact absurd h3 (hno a (by omega))
    exact p_add i98 iB iS iX hdr p1.2 p6.1 p6.2 (fun _ => tl_x (by decide) bd2 upd_at (hN _ _ _ _ _ _ hx61)) (fun w => by rw [hin] at w; exact absurd w (by decide)) (fun key v' f' g' B' lv' b e ek => absurd e (hno key ek))
end CASK
