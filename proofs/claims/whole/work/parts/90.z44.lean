/-! both worlds together: facets, ranks by scan, passages -/
section CASM
variable {S T U S8 : cS} {v v' : Nat → Int32} {f f' : Nat → Nat → Int32} {g g' : Nat → Nat → Int64} {dp x out k cd dd L : Nat} {x4 : Int32} {xs : Nat → Int32} {R : Int32 → Nat → Nat → cS → (Nat → Int32) → (Nat → Nat → Int32) → (Nat → Nat → Int64) → Prop}
theorem ask_no {sn : List (Nat × Vw)} {sl : Nat → Option (Nat × Vw)} {qs : List (Nat × (Nat → Nd))} {x : Int32} {s : Nat × Vw} {q : Nat} (p8 : sn.Perm ((List.range 5).filterMap sl)) (hs : s ∈ sn) (ex : nI s.1 = x) (hq : q < qs.length) (w : nAsk sl qs x (nI q)) : False := by
  obtain ⟨a, ha, hsl⟩ := (sn_ex p8).mp hs
  rcases w with w | ⟨a', s', h5, hsl', ex', w⟩
  · exact w a s ha hsl ex
  · exact w q hq rfl
/-- a live document of a key is one alone -/
theorem key_un {sg : Nat → List Dc} {s : Vw} {key : Nat} (h : vG sg s) {n j : Nat} {d : Dc} (h1 : n ∈ s.1) (h2 : (sg n)[j]? = some d) (h3 : s.2 n j = true) (h4 : dK d = key) {y : Nat × Nat} {d' : Dc} (hy : y ∈ mtL sg s.2 s.1) (hd : (sg y.1)[y.2]? = some d') (hk : dK d' = key) : y.1 = n ∧ y.2 = j ∧ d' = d := by
  obtain ⟨b1, b2, b3⟩ := mtL_mem hy
  obtain ⟨e1, e2⟩ := h.2 key y.1 y.2 d' n j d b1 h1 hd h2 b3 h3 hk h4
  refine ⟨e1, e2, ?_⟩
  rw [e1, e2, h2] at hd
  exact (Option.some.inj hd).symm
theorem key_no {sg : Nat → List Dc} {s : Vw} {key : Nat} (h : ∀ (n j : Nat) (d : Dc), n ∈ s.1 → (sg n)[j]? = some d → s.2 n j = true → dK d ≠ key) {y : Nat × Nat} {d' : Dc} (hy : y ∈ mtL sg s.2 s.1) (hd : (sg y.1)[y.2]? = some d') : dK d' ≠ key := by
  obtain ⟨b1, b2, b3⟩ := mtL_mem hy
  exact h y.1 y.2 d' b1 hd b3
theorem mtL_in {sg : Nat → List Dc} {s : Vw} {n j : Nat} {d : Dc} (h1 : n ∈ s.1) (h2 : (sg n)[j]? = some d) (h3 : s.2 n j = true) : (n, j) ∈ mtL sg s.2 s.1 := by
  have fn : ∀ N, j < N → (n, j) ∈ fndJ (s.2 n) n N := fun N => by
    induction N with
    | zero => intro h; exact absurd h (Nat.not_lt_zero j)
    | succ N ih =>
      intro h
      rw [fndJ]
      by_cases c : j = N
      · subst c; rw [if_pos h3]; exact List.mem_append.mpr (Or.inr (List.mem_singleton.mpr rfl))
      · exact List.mem_append.mpr (Or.inl (ih (by omega)))
  exact List.mem_flatMap.mpr ⟨n, h1, fn _ (get_lt h2)⟩
theorem lc_53 (hI : Rel k S dp x out v f g cd dd) (hk : k < 512) (hx4 : x4 = nI (6 * k)) (hL : 6 * k + 6 ≤ L) (hL2 : L ≤ 3072) (hN : nxR R k dp x out x4) : lw_c53 R xs L dp x out x4 cd dd S v f g := by
  have vp1 := vp6 hx4 hL hL2 (show 1 < 6 by decide)
  have vp2 := vp6 hx4 hL hL2 (show 2 < 6 by decide)
  have vp3 := vp6 hx4 hL hL2 (show 3 < 6 by decide)
  unfold lw_c53
  obtain ⟨y1, ey1⟩ : ∃ y1, y1 = xs (x4 + nI 1).toNatClampNeg := ⟨_, rfl⟩
  rw [← ey1]
  obtain ⟨y2, ey2⟩ : ∃ y2, y2 = xs (x4 + nI 2).toNatClampNeg := ⟨_, rfl⟩
  rw [← ey2]
  obtain ⟨y3, ey3⟩ : ∃ y3, y3 = xs (x4 + nI 3).toNatClampNeg := ⟨_, rfl⟩
  rw [← ey3]
  have hx6 := Rel_x (t := nI 1) (mc := 1) (ms := 6) (by decide) (by decide) hI
  have bd := Rel_bd (by omega) hx6
  have bd0 := Rel_bd (by omega) hI
  obtain ⟨ρ, WL, n, P, ks, A, yn, F, G, ad, c0, c1, n0, P0, n1, P1, hl, hr⟩ := id hI
  obtain ⟨o, so, sd, sg, made, B, ix, mg, cm, pr, sn, op, fi, w, cc, off, dn, hd, sl, m, nd, qs, w0, w1, H, sk, tk, CL, u, RR, ⟨a1, a2⟩, ⟨a3, a4⟩, ⟨a5, a6⟩, a7, a8, a9, b1, b2, b3, b7, b8⟩ := id hr
  obtain ⟨⟨i98, i97, i96, i39, i48⟩, iB, iS, iX, iM, iC, iP, iK, iZ, iW⟩ := id a7
  obtain ⟨⟨p1, p2, p3, p4, p5⟩, p6, p7, ⟨p8, p8b, p8c, p8d⟩, p9, p10, p11, p12, p13, p14⟩ := id b1
  have hlg := rL_lg hl.2.1
  have hpw := hl.2.1.1
  have hok : fiOk sg made sn qs w0 w1 := ⟨fun n hn => rSg_tkW iS p13 hn, by have := p14.1; omega, fun s hs => by have := vG_len (p5 s hs) (fun n hn => rSg_key iS (a2.2.2.2.2 s hs n hn)); omega, fun e he => (b2.2.2.2.2 e he).1, b3.1.1, b3.1.2⟩
  have hT : ∀ a s, a < 5 → sl a = some s → allN sg s.2.2 s.2.1 ≤ 600 := fun a s ha hs => hok.2.2.1 s ((sn_ex p8).mpr ⟨a, ha, hs⟩)
  have b31 : ∀ s, s ∈ sn → s.1 < 2 ^ 30 := fun s hs => by have := p8c s hs; omega
  have q40 := a8.2.1.2.1
  have hx61 := Rel_x (t := nI 1) (mc := 200) (ms := 4000) (by decide) (by decide) hI
  have hx62 := Rel_x (t := nI 2) (mc := 200) (ms := 4000) (by decide) (by decide) hI
  have bd2 := Rel_bd (by omega) hx61
  refine ⟨vp1, vp2, vp3, 200, 4000, bd2, ?_⟩
  unfold kw_L_facet
  rcases ask_dec (qs := qs) (x := y1) (y := y2) p8 with ⟨nA, hno⟩ | ⟨s, q, e, hs, ex, he, ey⟩
  · rcases id hno with hno1 | ⟨hex, hno1⟩
    · exact ⟨hl.1.1, Or.inr (Or.inl ⟨200, 4000, by omega, x_facetS a1 hno1 (by omega) (by omega) ⟨by omega, vp1, vp2, vp3, bd2, p_facet hlg p13 hpw iS iK hT a8.2.1 b2.2.2.2.2 a9.1.1 a9.1.2 b3.1 (fun _ => tl_x (by decide) bd2 upd_at (hN _ _ _ _ _ _ hx61)) (fun a s q e hA => (nA_no p8b p8 hno hA).elim) (fun a s q e c hA => (nA_no p8b p8 hno hA).elim)⟩⟩)⟩
    · exact ⟨hl.1.1, Or.inr (Or.inl ⟨200, 4000, by omega, x_facetQ a1 a4 hex hno1 (by omega) (by omega) ⟨by omega, vp1, vp2, vp3, bd2, p_facet hlg p13 hpw iS iK hT a8.2.1 b2.2.2.2.2 a9.1.1 a9.1.2 b3.1 (fun _ => tl_x (by decide) bd2 upd_at (hN _ _ _ _ _ _ hx61)) (fun a s q e hA => (nA_no p8b p8 hno hA).elim) (fun a s q e c hA => (nA_no p8b p8 hno hA).elim)⟩⟩)⟩
  · have hq40 := get_lt he
    subst ey
    by_cases hy : ∃ c, c < 10 ∧ y3 = nI c
    · obtain ⟨c, hc, rfl⟩ := hy
      refine ⟨hl.1.1, Or.inl ⟨200, 4000, by omega, by omega, ?_⟩⟩
      refine g_facet a1 a2 a4 a5 a6 hok ⟨s, hs, ex⟩ he hc (Nat.le_refl _) (Nat.le_refl _) (fun T ρ' s2 hs2 ex2 fT hρ gR gF => cls_out (by omega) (out_fr fT.1 (by decide) o) (fun S8 f90 o8 j8 => ⟨vp1, vp2, vp3, bd2, ?_⟩))
      have e1 : s2 = s := sn_uq p8b hs2 hs ((nI_eq (by have := b31 s2 hs2; omega) (by have := b31 s hs; omega)).mp (ex2.trans ex.symm))
      subst e1
      refine p_facet hlg p13 hpw iS iK hT a8.2.1 b2.2.2.2.2 a9.1.1 a9.1.2 b3.1 (fun w => (ask_no p8 hs ex hq40 w).elim) (fun a s' q' e' hA w => absurd rfl (w c hc)) (fun a s' q' e' c' hA hc' ec v' f' hO => ?_)
      obtain rfl : c = c' := (nI_eq (by omega) (by omega)).mp ec
      obtain ⟨rfl, rfl, rfl⟩ := isA_un p8 p8b b31 q40 hs ex he rfl hA
      have hF := rdO_F (g := g) hO
      have hrel : Rel (k + 1) S8 dp x out v' f' g (cd + 200) (dd + 4000) := Rel_F (mc := 200) (ms := 4000) hl a1 a2 a3 a4 a7 a8 b1 b2 b7 b8 fT hρ (by decide) gR gF f90 o8 hF (by decide) (by decide) (by decide) (rFi_fr hF (by decide) (by decide) a9) (pF_k b3) (by decide) (by decide)
      exact tl_ok bd2 hO.2.1 (out_X o8) j8 (hN _ _ _ _ _ _ hrel)
    · have hno : ∀ c, c < 10 → y3 ≠ nI c := fun c a b => hy ⟨c, a, b⟩
      refine ⟨hl.1.1, Or.inr (Or.inr ⟨200, 4000, by omega, x_facetA a1 a4 ⟨s, hs, ex⟩ he (fun c hc => hno c (by omega)) (by omega) (by omega) ⟨by omega, vp1, vp2, vp3, bd2, ?_⟩⟩)⟩
      exact p_facet hlg p13 hpw iS iK hT a8.2.1 b2.2.2.2.2 a9.1.1 a9.1.2 b3.1 (fun w => (ask_no p8 hs ex hq40 w).elim) (fun a s' q' e' hA w => tl_x (by decide) bd2 upd_at (hN _ _ _ _ _ _ hx62)) (fun a s' q' e' c' hA hc' ec => absurd ec (hno c' hc'))
theorem lc_50 (hI : Rel k S dp x out v f g cd dd) (hk : k < 512) (hx4 : x4 = nI (6 * k)) (hL : 6 * k + 6 ≤ L) (hL2 : L ≤ 3072) (hN : nxR R k dp x out x4) : lw_c50 R xs L dp x out x4 cd dd S v f g := by
  have vp1 := vp6 hx4 hL hL2 (show 1 < 6 by decide)
  have vp2 := vp6 hx4 hL hL2 (show 2 < 6 by decide)
  have vp3 := vp6 hx4 hL hL2 (show 3 < 6 by decide)
  unfold lw_c50
  obtain ⟨y1, ey1⟩ : ∃ y1, y1 = xs (x4 + nI 1).toNatClampNeg := ⟨_, rfl⟩
  rw [← ey1]
  obtain ⟨y2, ey2⟩ : ∃ y2, y2 = xs (x4 + nI 2).toNatClampNeg := ⟨_, rfl⟩
  rw [← ey2]
  obtain ⟨y3, ey3⟩ : ∃ y3, y3 = xs (x4 + nI 3).toNatClampNeg := ⟨_, rfl⟩
  rw [← ey3]
  have hx6 := Rel_x (t := nI 1) (mc := 1) (ms := 6) (by decide) (by decide) hI
  have bd := Rel_bd (by omega) hx6
  have bd0 := Rel_bd (by omega) hI
  obtain ⟨ρ, WL, n, P, ks, A, yn, F, G, ad, c0, c1, n0, P0, n1, P1, hl, hr⟩ := id hI
  obtain ⟨o, so, sd, sg, made, B, ix, mg, cm, pr, sn, op, fi, w, cc, off, dn, hd, sl, m, nd, qs, w0, w1, H, sk, tk, CL, u, RR, ⟨a1, a2⟩, ⟨a3, a4⟩, ⟨a5, a6⟩, a7, a8, a9, b1, b2, b3, b7, b8⟩ := id hr
  obtain ⟨⟨i98, i97, i96, i39, i48⟩, iB, iS, iX, iM, iC, iP, iK, iZ, iW⟩ := id a7
  obtain ⟨⟨p1, p2, p3, p4, p5⟩, p6, p7, ⟨p8, p8b, p8c, p8d⟩, p9, p10, p11, p12, p13, p14⟩ := id b1
  have hlg := rL_lg hl.2.1
  have hpw := hl.2.1.1
  have hok : fiOk sg made sn qs w0 w1 := ⟨fun n hn => rSg_tkW iS p13 hn, by have := p14.1; omega, fun s hs => by have := vG_len (p5 s hs) (fun n hn => rSg_key iS (a2.2.2.2.2 s hs n hn)); omega, fun e he => (b2.2.2.2.2 e he).1, b3.1.1, b3.1.2⟩
  have hT : ∀ a s, a < 5 → sl a = some s → allN sg s.2.2 s.2.1 ≤ 600 := fun a s ha hs => hok.2.2.1 s ((sn_ex p8).mpr ⟨a, ha, hs⟩)
  have b31 : ∀ s, s ∈ sn → s.1 < 2 ^ 30 := fun s hs => by have := p8c s hs; omega
  have q40 := a8.2.1.2.1
  have hx61 := Rel_x (t := nI 1) (mc := 1) (ms := 6) (by decide) (by decide) hI
  have hx62 := Rel_x (t := nI 2) (mc := 1) (ms := 6) (by decide) (by decide) hI
  have bd2 := Rel_bd (by omega) hx61
  refine ⟨vp1, vp2, vp3, 1, 6, bd2, ?_⟩
  unfold kw_L_rankByScan
  rcases ask_dec (qs := qs) (x := y1) (y := y2) p8 with ⟨nA, hno⟩ | ⟨s, q, e, hs, ex, he, ey⟩
  · rcases id hno with hno1 | ⟨hex, hno1⟩
    · exact ⟨hl.1.1, Or.inr ⟨1, 6, by omega, x_rankByScanS a1 hno1 (by omega) (by omega) ⟨by omega, vp1, vp2, vp3, bd2, p_rankByScan hlg p13 hpw iS iK hT a8.2.1 b2.2.2.2.2 a9.1.1 a9.1.2 b3.1 (fun _ => tl_x (by decide) bd2 upd_at (hN _ _ _ _ _ _ hx61)) (fun a s q e hA => (nA_no p8b p8 hno hA).elim) (fun a s q e key hA => (nA_no p8b p8 hno hA).elim) (fun a s q e key hA => (nA_no p8b p8 hno hA).elim)⟩⟩⟩
    · exact ⟨hl.1.1, Or.inr ⟨1, 6, by omega, x_rankByScanQ a1 a4 hex hno1 (by omega) (by omega) ⟨by omega, vp1, vp2, vp3, bd2, p_rankByScan hlg p13 hpw iS iK hT a8.2.1 b2.2.2.2.2 a9.1.1 a9.1.2 b3.1 (fun _ => tl_x (by decide) bd2 upd_at (hN _ _ _ _ _ _ hx61)) (fun a s q e hA => (nA_no p8b p8 hno hA).elim) (fun a s q e key hA => (nA_no p8b p8 hno hA).elim) (fun a s q e key hA => (nA_no p8b p8 hno hA).elim)⟩⟩⟩
  · have hq40 := get_lt he
    subst ey
    by_cases hy : ∃ c, c < 100 ∧ y3 = nI c
    · obtain ⟨c, hc, rfl⟩ := hy
      refine ⟨hl.1.1, Or.inl ⟨by omega, ?_⟩⟩
      refine g_rankByScan a1 a2 a4 a5 a6 hok ⟨s, hs, ex⟩ he hc (fun s2 hs2 ex2 hnone => cls_out (by omega) o (fun S8 f90 o8 j8 => ⟨vp1, vp2, vp3, bd2, ?_⟩)) (fun T s2 n2 j2 d2 hs2 ex2 g1 g2 g3 g4 fT gR gF => cls_out (by omega) (out_fr fT.1 (by decide) o) (fun S8 f90 o8 j8 => ⟨vp1, vp2, vp3, bd2, ?_⟩))
      · have e1 : s2 = s := sn_uq p8b hs2 hs ((nI_eq (by have := b31 s2 hs2; omega) (by have := b31 s hs; omega)).mp (ex2.trans ex.symm))
        subst e1
        refine p_rankByScan hlg p13 hpw iS iK hT a8.2.1 b2.2.2.2.2 a9.1.1 a9.1.2 b3.1 (fun w => (ask_no p8 hs ex hq40 w).elim) (fun a s' q' e' hA w => absurd rfl (w c hc)) (fun a s' q' e' key hA hk' ek hn v' f' hO => ?_) (fun a s' q' e' key hA hk' ek y d' hy' hd' hkd => ?_)
        · have hF := rdO_F (g := g) hO
          have hrel : Rel (k + 1) S8 dp x out v' f' g (cd + 1) (dd + 6) := Rel_R hl hr f90 (by decide) o8 hF (by decide) (by decide) (by decide) (by decide) (by decide)
          exact tl_ok bd2 hO.2.1 (out_X o8) j8 (hN _ _ _ _ _ _ hrel)
        · exfalso
          obtain rfl : c = key := (nI_eq (by omega) (by omega)).mp ek
          obtain ⟨rfl, rfl, rfl⟩ := isA_un p8 p8b b31 q40 hs ex he rfl hA
          exact key_no hnone hy' hd' hkd
      · have e1 : s2 = s := sn_uq p8b hs2 hs ((nI_eq (by have := b31 s2 hs2; omega) (by have := b31 s hs; omega)).mp (ex2.trans ex.symm))
        subst e1
        refine p_rankByScan hlg p13 hpw iS iK hT a8.2.1 b2.2.2.2.2 a9.1.1 a9.1.2 b3.1 (fun w => (ask_no p8 hs ex hq40 w).elim) (fun a s' q' e' hA w => absurd rfl (w c hc)) (fun a s' q' e' key hA hk' ek hn v' f' hO => ?_) (fun a s' q' e' key hA hk' ek y d' hy' hd' hkd v' f' hO => ?_)
        · exfalso
          obtain rfl : c = key := (nI_eq (by omega) (by omega)).mp ek
          obtain ⟨rfl, rfl, rfl⟩ := isA_un p8 p8b b31 q40 hs ex he rfl hA
          exact hn (n2, j2) d2 (mtL_in g1 g2 g3) g2 g4
        · obtain rfl : c = key := (nI_eq (by omega) (by omega)).mp ek
          obtain ⟨rfl, rfl, rfl⟩ := isA_un p8 p8b b31 q40 hs ex he rfl hA
          obtain ⟨u1, u2, u3⟩ := key_un (p5 _ hs2) g1 g2 g3 g4 hy' hd' hkd
          rw [u1, u2]
          have hF := rdO_F (g := g) hO
          have hrel : Rel (k + 1) S8 dp x out v' f' g (cd + 1) (dd + 6) := Rel_F (mc := 1) (ms := 6) hl a1 a2 a3 a4 a7 a8 b1 b2 b7 b8 fT (fun _ _ => rfl) (by decide) gR gF f90 o8 hF (by decide) (by decide) (by decide) (rFi_fr hF (by decide) (by decide) a9) (pF_k b3) (by decide) (by decide)
          exact tl_ok bd2 hO.2.1 (out_X o8) j8 (hN _ _ _ _ _ _ hrel)
    · have hno : ∀ c, c < 100 → y3 ≠ nI c := fun c a b => hy ⟨c, a, b⟩
      refine ⟨hl.1.1, Or.inr ⟨1, 6, by omega, x_rankByScanK a1 a4 ⟨s, hs, ex⟩ he hno (by omega) (by omega) ⟨by omega, vp1, vp2, vp3, bd2, ?_⟩⟩⟩
      exact p_rankByScan hlg p13 hpw iS iK hT a8.2.1 b2.2.2.2.2 a9.1.1 a9.1.2 b3.1 (fun w => (ask_no p8 hs ex hq40 w).elim) (fun a s' q' e' hA w => tl_x (by decide) bd2 upd_at (hN _ _ _ _ _ _ hx61)) (fun a s' q' e' c' hA hc' ec => absurd ec (hno c' hc')) (fun a s' q' e' c' hA hc' ec => absurd ec (hno c' hc'))
theorem lc_55 (hI : Rel k S dp x out v f g cd dd) (hk : k < 512) (hx4 : x4 = nI (6 * k)) (hL : 6 * k + 6 ≤ L) (hL2 : L ≤ 3072) (hN : nxR R k dp x out x4) : lw_c55 R xs L dp x out x4 cd dd S v f g := by
  have vp1 := vp6 hx4 hL hL2 (show 1 < 6 by decide)
  have vp2 := vp6 hx4 hL hL2 (show 2 < 6 by decide)
  have vp3 := vp6 hx4 hL hL2 (show 3 < 6 by decide)
  have vp4 := vp6 hx4 hL hL2 (show 4 < 6 by decide)
  unfold lw_c55
  obtain ⟨y1, ey1⟩ : ∃ y1, y1 = xs (x4 + nI 1).toNatClampNeg := ⟨_, rfl⟩
  rw [← ey1]
  obtain ⟨y2, ey2⟩ : ∃ y2, y2 = xs (x4 + nI 2).toNatClampNeg := ⟨_, rfl⟩
  rw [← ey2]
  obtain ⟨y3, ey3⟩ : ∃ y3, y3 = xs (x4 + nI 3).toNatClampNeg := ⟨_, rfl⟩
  rw [← ey3]
  obtain ⟨y4, ey4⟩ : ∃ y4, y4 = xs (x4 + nI 4).toNatClampNeg := ⟨_, rfl⟩
  rw [← ey4]
  have hx6 := Rel_x (t := nI 1) (mc := 1) (ms := 6) (by decide) (by decide) hI
  have bd := Rel_bd (by omega) hx6
  have bd0 := Rel_bd (by omega) hI
  obtain ⟨ρ, WL, n, P, ks, A, yn, F, G, ad, c0, c1, n0, P0, n1, P1, hl, hr⟩ := id hI
  obtain ⟨o, so, sd, sg, made, B, ix, mg, cm, pr, sn, op, fi, w, cc, off, dn, hd, sl, m, nd, qs, w0, w1, H, sk, tk, CL, u, RR, ⟨a1, a2⟩, ⟨a3, a4⟩, ⟨a5, a6⟩, a7, a8, a9, b1, b2, b3, b7, b8⟩ := id hr
  obtain ⟨⟨i98, i97, i96, i39, i48⟩, iB, iS, iX, iM, iC, iP, iK, iZ, iW⟩ := id a7
  obtain ⟨⟨p1, p2, p3, p4, p5⟩, p6, p7, ⟨p8, p8b, p8c, p8d⟩, p9, p10, p11, p12, p13, p14⟩ := id b1
  have hlg := rL_lg hl.2.1
  have hpw := hl.2.1.1
  have hok : fiOk sg made sn qs w0 w1 := ⟨fun n hn => rSg_tkW iS p13 hn, by have := p14.1; omega, fun s hs => by have := vG_len (p5 s hs) (fun n hn => rSg_key iS (a2.2.2.2.2 s hs n hn)); omega, fun e he => (b2.2.2.2.2 e he).1, b3.1.1, b3.1.2⟩
  have hT : ∀ a s, a < 5 → sl a = some s → allN sg s.2.2 s.2.1 ≤ 600 := fun a s ha hs => hok.2.2.1 s ((sn_ex p8).mpr ⟨a, ha, hs⟩)
  have b31 : ∀ s, s ∈ sn → s.1 < 2 ^ 30 := fun s hs => by have := p8c s hs; omega
  have q40 := a8.2.1.2.1
  have hx61 := Rel_x (t := nI 1) (mc := 1) (ms := 6) (by decide) (by decide) hI
  have hx62 := Rel_x (t := nI 2) (mc := 1) (ms := 6) (by decide) (by decide) hI
  have bd2 := Rel_bd (by omega) hx61
  refine ⟨vp1, vp2, vp3, vp4, 1, 6, bd2, ?_⟩
  unfold kw_L_passages
  rcases ask_dec (qs := qs) (x := y1) (y := y2) p8 with ⟨nA, hno⟩ | ⟨s, q, e, hs, ex, he, ey⟩
  · rcases id hno with hno1 | ⟨hex, hno1⟩
    · exact ⟨hl.1.1, Or.inr ⟨1, 6, by omega, x_passagesS a1 hno1 (by omega) (by omega) ⟨by omega, vp1, vp2, vp3, vp4, bd2, p_passages hlg p13 hpw iS iK hT a8.2.1 b2.2.2.2.2 a9.1.1 a9.1.2 b3.1 (fun _ => tl_x (by decide) bd2 upd_at (hN _ _ _ _ _ _ hx61)) (fun a s q e key fl hA => (nA_no p8b p8 hno hA).elim) (fun a s q e key fl hA => (nA_no p8b p8 hno hA).elim)⟩⟩⟩
    · exact ⟨hl.1.1, Or.inr ⟨1, 6, by omega, x_passagesQ a1 a4 hex hno1 (by omega) (by omega) ⟨by omega, vp1, vp2, vp3, vp4, bd2, p_passages hlg p13 hpw iS iK hT a8.2.1 b2.2.2.2.2 a9.1.1 a9.1.2 b3.1 (fun _ => tl_x (by decide) bd2 upd_at (hN _ _ _ _ _ _ hx61)) (fun a s q e key fl hA => (nA_no p8b p8 hno hA).elim) (fun a s q e key fl hA => (nA_no p8b p8 hno hA).elim)⟩⟩⟩
  · have hq40 := get_lt he
    subst ey
    by_cases hy : ∃ c, c < 100 ∧ y3 = nI c
    · obtain ⟨c, hc, rfl⟩ := hy
      by_cases hz : ∃ l, l < 2 ∧ y4 = nI l
      · obtain ⟨fl, hfl, rfl⟩ := hz
        have good : ¬ nPas sl qs y1 (nI q) (nI c) (nI fl) := fun w => by
          rcases w with w | ⟨a, s', q', e', hA, w | ⟨key, hk', ek, w⟩⟩
          · exact ask_no p8 hs ex hq40 w
          · exact w c hc rfl
          · exact w fl hfl rfl
        refine ⟨hl.1.1, Or.inl ⟨by omega, ?_⟩⟩
        refine g_passages a1 a2 a4 a5 a6 hok ⟨s, hs, ex⟩ he hc hfl (fun s2 hs2 ex2 hnone => cls_out (by omega) o (fun S8 f90 o8 j8 => ⟨vp1, vp2, vp3, vp4, bd2, ?_⟩)) (fun T s2 n2 j2 d2 hs2 ex2 g1 g2 g3 g4 fT gR gF => cls_out (by omega) (out_fr fT.1 (by decide) o) (fun S8 f90 o8 j8 => ⟨vp1, vp2, vp3, vp4, bd2, ?_⟩))
        · have e1 : s2 = s := sn_uq p8b hs2 hs ((nI_eq (by have := b31 s2 hs2; omega) (by have := b31 s hs; omega)).mp (ex2.trans ex.symm))
          subst e1
          refine p_passages hlg p13 hpw iS iK hT a8.2.1 b2.2.2.2.2 a9.1.1 a9.1.2 b3.1 (fun w => absurd w good) (fun a s' q' e' key fl' hA hk' ek hf' ef hn v' f' hO => ?_) (fun a s' q' e' key fl' hA hk' ek hf' ef y d' hy' hd' hkd => ?_)
          · have hF : rF [99, 60, 92] [38, 52, 53, 54, 55, 56, 61, 62, 63, 64] [] v f g (upd v' 99 (nI 0)) f' g := ⟨fun i hi => by rw [upd_n (fun e => hi (by rw [e]; decide))]; exact hO.1 i (fun w => hi (by revert w; simp; omega)), hO.2, fun _ _ => rfl⟩
            have hrel : Rel (k + 1) S8 dp x out (upd v' 99 (nI 0)) f' g (cd + 1) (dd + 6) := Rel_R hl hr f90 (by decide) o8 hF (by decide) (by decide) (by decide) (by decide) (by decide)
            exact tl_ok bd2 upd_at (out_X o8) j8 (hN _ _ _ _ _ _ hrel)
          · exfalso
            obtain rfl : c = key := (nI_eq (by omega) (by omega)).mp ek
            obtain ⟨rfl, rfl, rfl⟩ := isA_un p8 p8b b31 q40 hs ex he rfl hA
            exact key_no hnone hy' hd' hkd
        · have e1 : s2 = s := sn_uq p8b hs2 hs ((nI_eq (by have := b31 s2 hs2; omega) (by have := b31 s hs; omega)).mp (ex2.trans ex.symm))
          subst e1
          refine p_passages hlg p13 hpw iS iK hT a8.2.1 b2.2.2.2.2 a9.1.1 a9.1.2 b3.1 (fun w => absurd w good) (fun a s' q' e' key fl' hA hk' ek hf' ef hn v' f' hO => ?_) (fun a s' q' e' key fl' hA hk' ek hf' ef y d' hy' hd' hkd v' f' hO => ?_)
          · exfalso
            obtain rfl : c = key := (nI_eq (by omega) (by omega)).mp ek
            obtain ⟨rfl, rfl, rfl⟩ := isA_un p8 p8b b31 q40 hs ex he rfl hA
            exact hn (n2, j2) d2 (mtL_in g1 g2 g3) g2 g4
          · obtain rfl : c = key := (nI_eq (by omega) (by omega)).mp ek
            obtain rfl : fl = fl' := (nI_eq (by omega) (by omega)).mp ef
            obtain ⟨rfl, rfl, rfl⟩ := isA_un p8 p8b b31 q40 hs ex he rfl hA
            obtain ⟨-, -, u3⟩ := key_un (p5 _ hs2) g1 g2 g3 g4 hy' hd' hkd
            rw [u3]
            have hF : rF [99, 60, 92] [38, 52, 53, 54, 55, 56, 61, 62, 63, 64] [] v f g (upd v' 99 (nI 0)) f' g := ⟨fun i hi => by rw [upd_n (fun e => hi (by rw [e]; decide))]; exact hO.1 i (fun w => hi (by revert w; simp; omega)), hO.2, fun _ _ => rfl⟩
            have hrel : Rel (k + 1) S8 dp x out (upd v' 99 (nI 0)) f' g (cd + 1) (dd + 6) := Rel_F (mc := 1) (ms := 6) hl a1 a2 a3 a4 a7 a8 b1 b2 b7 b8 fT (fun _ _ => rfl) (by decide) gR gF f90 o8 hF (by decide) (by decide) (by decide) (rFi_fr hF (by decide) (by decide) a9) (pF_k b3) (by decide) (by decide)
            exact tl_ok bd2 upd_at (out_X o8) j8 (hN _ _ _ _ _ _ hrel)
      · have hno : ∀ c, c < 2 → y4 ≠ nI c := fun c a b => hz ⟨c, a, b⟩
        refine ⟨hl.1.1, Or.inr ⟨1, 6, by omega, x_passagesF a1 a4 ⟨s, hs, ex⟩ he hc hno (by omega) (by omega) ⟨by omega, vp1, vp2, vp3, vp4, bd2, ?_⟩⟩⟩
        exact p_passages hlg p13 hpw iS iK hT a8.2.1 b2.2.2.2.2 a9.1.1 a9.1.2 b3.1 (fun w => tl_x (by decide) bd2 upd_at (hN _ _ _ _ _ _ hx61)) (fun a s' q' e' key fl' hA hk' ek hf' ef => absurd ef (hno fl' hf')) (fun a s' q' e' key fl' hA hk' ek hf' ef => absurd ef (hno fl' hf'))
    · have hno : ∀ c, c < 100 → y3 ≠ nI c := fun c a b => hy ⟨c, a, b⟩
      refine ⟨hl.1.1, Or.inr ⟨1, 6, by omega, x_passagesK a1 a4 ⟨s, hs, ex⟩ he hno (by omega) (by omega) ⟨by omega, vp1, vp2, vp3, vp4, bd2, ?_⟩⟩⟩
      exact p_passages hlg p13 hpw iS iK hT a8.2.1 b2.2.2.2.2 a9.1.1 a9.1.2 b3.1 (fun w => tl_x (by decide) bd2 upd_at (hN _ _ _ _ _ _ hx61)) (fun a s' q' e' c' fl' hA hc' ec => absurd ec (hno c' hc')) (fun a s' q' e' c' fl' hA hc' ec => absurd ec (hno c' hc'))
theorem lc_56 (hI : Rel k S dp x out v f g cd dd) (hk : k < 512) (hx4 : x4 = nI (6 * k)) (hL : 6 * k + 6 ≤ L) (hL2 : L ≤ 3072) (hN : nxR R k dp x out x4) : lw_c56 R xs L dp x out x4 cd dd S v f g := by
  have vp1 := vp6 hx4 hL hL2 (show 1 < 6 by decide)
  have vp2 := vp6 hx4 hL hL2 (show 2 < 6 by decide)
  have vp3 := vp6 hx4 hL hL2 (show 3 < 6 by decide)
  have vp4 := vp6 hx4 hL hL2 (show 4 < 6 by decide)
  have vp5 := vp6 hx4 hL hL2 (show 5 < 6 by decide)
  unfold lw_c56
  obtain ⟨y1, ey1⟩ : ∃ y1, y1 = xs (x4 + nI 1).toNatClampNeg := ⟨_, rfl⟩
  rw [← ey1]
  obtain ⟨y2, ey2⟩ : ∃ y2, y2 = xs (x4 + nI 2).toNatClampNeg := ⟨_, rfl⟩
  rw [← ey2]
  obtain ⟨y3, ey3⟩ : ∃ y3, y3 = xs (x4 + nI 3).toNatClampNeg := ⟨_, rfl⟩
  rw [← ey3]
  obtain ⟨y4, ey4⟩ : ∃ y4, y4 = xs (x4 + nI 4).toNatClampNeg := ⟨_, rfl⟩
  rw [← ey4]
  obtain ⟨y5, ey5⟩ : ∃ y5, y5 = xs (x4 + nI 5).toNatClampNeg := ⟨_, rfl⟩
  rw [← ey5]
  have hx6 := Rel_x (t := nI 1) (mc := 1) (ms := 6) (by decide) (by decide) hI
  have bd := Rel_bd (by omega) hx6
  have bd0 := Rel_bd (by omega) hI
  obtain ⟨ρ, WL, n, P, ks, A, yn, F, G, ad, c0, c1, n0, P0, n1, P1, hl, hr⟩ := id hI
  obtain ⟨o, so, sd, sg, made, B, ix, mg, cm, pr, sn, op, fi, w, cc, off, dn, hd, sl, m, nd, qs, w0, w1, H, sk, tk, CL, u, RR, ⟨a1, a2⟩, ⟨a3, a4⟩, ⟨a5, a6⟩, a7, a8, a9, b1, b2, b3, b7, b8⟩ := id hr
  obtain ⟨⟨i98, i97, i96, i39, i48⟩, iB, iS, iX, iM, iC, iP, iK, iZ, iW⟩ := id a7
  obtain ⟨⟨p1, p2, p3, p4, p5⟩, p6, p7, ⟨p8, p8b, p8c, p8d⟩, p9, p10, p11, p12, p13, p14⟩ := id b1
  have hlg := rL_lg hl.2.1
  have hpw := hl.2.1.1
  have hok : fiOk sg made sn qs w0 w1 := ⟨fun n hn => rSg_tkW iS p13 hn, by have := p14.1; omega, fun s hs => by have := vG_len (p5 s hs) (fun n hn => rSg_key iS (a2.2.2.2.2 s hs n hn)); omega, fun e he => (b2.2.2.2.2 e he).1, b3.1.1, b3.1.2⟩
  have hT : ∀ a s, a < 5 → sl a = some s → allN sg s.2.2 s.2.1 ≤ 600 := fun a s ha hs => hok.2.2.1 s ((sn_ex p8).mpr ⟨a, ha, hs⟩)
  have b31 : ∀ s, s ∈ sn → s.1 < 2 ^ 30 := fun s hs => by have := p8c s hs; omega
  have q40 := a8.2.1.2.1
  have hx61 := Rel_x (t := nI 1) (mc := 1) (ms := 6) (by decide) (by decide) hI
  have hx62 := Rel_x (t := nI 2) (mc := 1) (ms := 6) (by decide) (by decide) hI
  have bd2 := Rel_bd (by omega) hx61
  refine ⟨vp1, vp2, vp3, vp4, vp5, 1, 6, bd2, ?_⟩
  unfold kw_L_passageAt
  rcases ask_dec (qs := qs) (x := y1) (y := y2) p8 with ⟨nA, hno⟩ | ⟨s, q, e, hs, ex, he, ey⟩
  · rcases id hno with hno1 | ⟨hex, hno1⟩
    · exact ⟨hl.1.1, Or.inr ⟨1, 6, by omega, x_passageAtS a1 hno1 (by omega) (by omega) ⟨by omega, vp1, vp2, vp3, vp4, vp5, bd2, p_passageAt hlg p13 hpw iS iK hT a8.2.1 b2.2.2.2.2 a9.1.1 a9.1.2 b3.1 (fun _ => tl_x (by decide) bd2 upd_at (hN _ _ _ _ _ _ hx61)) (fun a s q e key fl hA => (nA_no p8b p8 hno hA).elim) (fun a s q e key fl hA => (nA_no p8b p8 hno hA).elim)⟩⟩⟩
    · exact ⟨hl.1.1, Or.inr ⟨1, 6, by omega, x_passageAtQ a1 a4 hex hno1 (by omega) (by omega) ⟨by omega, vp1, vp2, vp3, vp4, vp5, bd2, p_passageAt hlg p13 hpw iS iK hT a8.2.1 b2.2.2.2.2 a9.1.1 a9.1.2 b3.1 (fun _ => tl_x (by decide) bd2 upd_at (hN _ _ _ _ _ _ hx61)) (fun a s q e key fl hA => (nA_no p8b p8 hno hA).elim) (fun a s q e key fl hA => (nA_no p8b p8 hno hA).elim)⟩⟩⟩
  · have hq40 := get_lt he
    subst ey
    by_cases hy : ∃ c, c < 100 ∧ y3 = nI c
    · obtain ⟨c, hc, rfl⟩ := hy
      by_cases hz : ∃ l, l < 2 ∧ y4 = nI l
      · obtain ⟨fl, hfl, rfl⟩ := hz
        have good : ¬ nPas sl qs y1 (nI q) (nI c) (nI fl) := fun w => by
          rcases w with w | ⟨a, s', q', e', hA, w | ⟨key, hk', ek, w⟩⟩
          · exact ask_no p8 hs ex hq40 w
          · exact w c hc rfl
          · exact w fl hfl rfl
        refine ⟨hl.1.1, Or.inl ⟨by omega, ?_⟩⟩
        refine g_passageAt a1 a2 a4 a5 a6 hok ⟨s, hs, ex⟩ he hc hfl (fun s2 hs2 ex2 hnone => cls_out (by omega) o (fun S8 f90 o8 j8 => ⟨vp1, vp2, vp3, vp4, vp5, bd2, ?_⟩)) (fun T s2 n2 j2 d2 hs2 ex2 g1 g2 g3 g4 fT gR gF => cls_out (by omega) (out_fr fT.1 (by decide) o) (fun S8 f90 o8 j8 => ⟨vp1, vp2, vp3, vp4, vp5, bd2, ?_⟩))
        · have e1 : s2 = s := sn_uq p8b hs2 hs ((nI_eq (by have := b31 s2 hs2; omega) (by have := b31 s hs; omega)).mp (ex2.trans ex.symm))
          subst e1
          refine p_passageAt hlg p13 hpw iS iK hT a8.2.1 b2.2.2.2.2 a9.1.1 a9.1.2 b3.1 (fun w => absurd w good) (fun a s' q' e' key fl' hA hk' ek hf' ef hn v' f' hO => ?_) (fun a s' q' e' key fl' hA hk' ek hf' ef y d' hy' hd' hkd => ?_)
          · have hF : rF [99, 60, 92] [38, 52, 53, 54, 55, 56, 61, 62, 63, 64] [] v f g (upd v' 99 (nI 0)) f' g := ⟨fun i hi => by rw [upd_n (fun e => hi (by rw [e]; decide))]; exact hO.1 i (fun w => hi (by revert w; simp; omega)), hO.2, fun _ _ => rfl⟩
            have hrel : Rel (k + 1) S8 dp x out (upd v' 99 (nI 0)) f' g (cd + 1) (dd + 6) := Rel_R hl hr f90 (by decide) o8 hF (by decide) (by decide) (by decide) (by decide) (by decide)
            exact tl_ok bd2 upd_at (out_X o8) j8 (hN _ _ _ _ _ _ hrel)
          · exfalso
            obtain rfl : c = key := (nI_eq (by omega) (by omega)).mp ek
            obtain ⟨rfl, rfl, rfl⟩ := isA_un p8 p8b b31 q40 hs ex he rfl hA
            exact key_no hnone hy' hd' hkd
        · have e1 : s2 = s := sn_uq p8b hs2 hs ((nI_eq (by have := b31 s2 hs2; omega) (by have := b31 s hs; omega)).mp (ex2.trans ex.symm))
          subst e1
          refine p_passageAt hlg p13 hpw iS iK hT a8.2.1 b2.2.2.2.2 a9.1.1 a9.1.2 b3.1 (fun w => absurd w good) (fun a s' q' e' key fl' hA hk' ek hf' ef hn v' f' hO => ?_) (fun a s' q' e' key fl' hA hk' ek hf' ef y d' hy' hd' hkd v' f' hO => ?_)
          · exfalso
            obtain rfl : c = key := (nI_eq (by omega) (by omega)).mp ek
            obtain ⟨rfl, rfl, rfl⟩ := isA_un p8 p8b b31 q40 hs ex he rfl hA
            exact hn (n2, j2) d2 (mtL_in g1 g2 g3) g2 g4
          · obtain rfl : c = key := (nI_eq (by omega) (by omega)).mp ek
            obtain rfl : fl = fl' := (nI_eq (by omega) (by omega)).mp ef
            obtain ⟨rfl, rfl, rfl⟩ := isA_un p8 p8b b31 q40 hs ex he rfl hA
            obtain ⟨-, -, u3⟩ := key_un (p5 _ hs2) g1 g2 g3 g4 hy' hd' hkd
            rw [u3]
            have hF : rF [99, 60, 92] [38, 52, 53, 54, 55, 56, 61, 62, 63, 64] [] v f g (upd v' 99 (nI 0)) f' g := ⟨fun i hi => by rw [upd_n (fun e => hi (by rw [e]; decide))]; exact hO.1 i (fun w => hi (by revert w; simp; omega)), hO.2, fun _ _ => rfl⟩
            have hrel : Rel (k + 1) S8 dp x out (upd v' 99 (nI 0)) f' g (cd + 1) (dd + 6) := Rel_F (mc := 1) (ms := 6) hl a1 a2 a3 a4 a7 a8 b1 b2 b7 b8 fT (fun _ _ => rfl) (by decide) gR gF f90 o8 hF (by decide) (by decide) (by decide) (rFi_fr hF (by decide) (by decide) a9) (pF_k b3) (by decide) (by decide)
            exact tl_ok bd2 upd_at (out_X o8) j8 (hN _ _ _ _ _ _ hrel)
      · have hno : ∀ c, c < 2 → y4 ≠ nI c := fun c a b => hz ⟨c, a, b⟩
        refine ⟨hl.1.1, Or.inr ⟨1, 6, by omega, x_passageAtF a1 a4 ⟨s, hs, ex⟩ he hc hno (by omega) (by omega) ⟨by omega, vp1, vp2, vp3, vp4, vp5, bd2, ?_⟩⟩⟩
        exact p_passageAt hlg p13 hpw iS iK hT a8.2.1 b2.2.2.2.2 a9.1.1 a9.1.2 b3.1 (fun w => tl_x (by decide) bd2 upd_at (hN _ _ _ _ _ _ hx61)) (fun a s' q' e' key fl' hA hk' ek hf' ef => absurd ef (hno fl' hf')) (fun a s' q' e' key fl' hA hk' ek hf' ef => absurd ef (hno fl' hf'))
    · have hno : ∀ c, c < 100 → y3 ≠ nI c := fun c a b => hy ⟨c, a, b⟩
      refine ⟨hl.1.1, Or.inr ⟨1, 6, by omega, x_passageAtK a1 a4 ⟨s, hs, ex⟩ he hno (by omega) (by omega) ⟨by omega, vp1, vp2, vp3, vp4, vp5, bd2, ?_⟩⟩⟩
      exact p_passageAt hlg p13 hpw iS iK hT a8.2.1 b2.2.2.2.2 a9.1.1 a9.1.2 b3.1 (fun w => tl_x (by decide) bd2 upd_at (hN _ _ _ _ _ _ hx61)) (fun a s' q' e' c' fl' hA hc' ec => absurd ec (hno c' hc')) (fun a s' q' e' c' fl' hA hc' ec => absurd ec (hno c' hc'))
end CASM
