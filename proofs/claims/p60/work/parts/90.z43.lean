/-! both worlds together: matches, facets -/
theorem rSg_tkW {v : Nat → Int32} {f : Nat → Nat → Int32} {g : Nat → Nat → Int64} {l : LGt} {made dn : Nat} {sg : Nat → List Dc} {hd : Nat → Nat → Nat} (h : rSg l v f g made dn sg hd) (hS : scW l) {n : Nat} (hn : n < made) : tkW (sg n) := by
  intro d hd' fl x hx
  obtain ⟨j, hj⟩ := List.mem_iff_getElem?.mp hd'
  have hx2 := ((h.2.2 n hn).2.2 j d hj).2.2.2.2.2
  have gen : ∀ fl, fl < 2 → x ∈ dT d fl → ∃ w, w < 37 ^ 12 ∧ x.1 = lN w := fun fl hfl hx => by
    obtain ⟨K, K20, -, hT, hw⟩ := hx2 fl hfl
    rw [hT] at hx
    obtain ⟨h1, -, h3⟩ := (tkL_mem (c := x.1) (q := x.2)).mp hx
    rcases h3 with h3 | ⟨i, h4, -, h6⟩
    · obtain ⟨w, hw1, hw2⟩ := hw x.2 h1
      exact ⟨w, hw1, h3.trans hw2⟩
    · obtain ⟨w, hw1, hw2⟩ := hS i h4
      exact ⟨w, hw1, h6.symm.trans hw2⟩
  by_cases c : fl = 0
  · exact gen 0 (by decide) (by rw [← c]; exact hx)
  · refine gen 1 (by decide) ?_
    unfold dT at hx ⊢
    rw [if_neg c] at hx
    rw [if_neg (by decide)]; exact hx
section ASK
variable {sn : List (Nat × Vw)} {sl : Nat → Option (Nat × Vw)} {qs : List (Nat × (Nat → Nd))} {x y : Int32}
theorem ask_dec (h : sn.Perm ((List.range 5).filterMap sl)) : (nAsk sl qs x y ∧ ((∀ s, s ∈ sn → nI s.1 ≠ x) ∨ ((∃ s, s ∈ sn ∧ nI s.1 = x) ∧ ∀ k, k < qs.length → y ≠ nI k))) ∨ ∃ s q e, s ∈ sn ∧ nI s.1 = x ∧ qs[q]? = some e ∧ y = nI q := by
  by_cases h1 : ∃ s, s ∈ sn ∧ nI s.1 = x
  · obtain ⟨s, hs, ex⟩ := h1
    by_cases h2 : ∃ q, q < qs.length ∧ y = nI q
    · obtain ⟨q, hq, ey⟩ := h2
      obtain ⟨e, he⟩ := get_ex (l := qs) (k := q) hq
      exact Or.inr ⟨s, q, e, hs, ex, he, ey⟩
    · have hno : ∀ k, k < qs.length → y ≠ nI k := fun k a b => h2 ⟨k, a, b⟩
      obtain ⟨a, ha, hsl⟩ := (sn_ex h).mp hs
      exact Or.inl ⟨Or.inr ⟨a, s, ha, hsl, ex, hno⟩, Or.inr ⟨⟨s, hs, ex⟩, hno⟩⟩
  · have hno : ∀ s, s ∈ sn → nI s.1 ≠ x := fun s a b => h1 ⟨s, a, b⟩
    exact Or.inl ⟨Or.inl (fun k s hk hs => hno s ((sn_ex h).mpr ⟨k, hk, hs⟩)), Or.inl hno⟩
theorem isA_un (h : sn.Perm ((List.range 5).filterMap sl)) (hnd : (sn.map (fun s => s.1)).Nodup) (hb : ∀ s, s ∈ sn → s.1 < 2 ^ 30) (hq40 : qs.length ≤ 40) {s : Nat × Vw} {q : Nat} {e : Nat × (Nat → Nd)} (hs : s ∈ sn) (ex : nI s.1 = x) (he : qs[q]? = some e) (ey : y = nI q) {a : Nat} {s' : Nat × Vw} {q' : Nat} {e' : Nat × (Nat → Nd)} (hA : isA sl qs x y a s' q' e') : s' = s ∧ q' = q ∧ e' = e := by
  obtain ⟨a5, hsl, ex', he', ey'⟩ := hA
  have hs' := (sn_ex h).mpr ⟨a, a5, hsl⟩
  have b1 := hb s hs
  have b2 := hb s' hs'
  have l1 := get_lt he
  have l2 := get_lt he'
  have e1 : s' = s := sn_uq hnd hs' hs ((nI_eq (by omega) (by omega)).mp (ex'.trans ex.symm))
  have e2 : q' = q := (nI_eq (by omega) (by omega)).mp (ey'.symm.trans ey)
  subst e2
  rw [he] at he'
  exact ⟨e1, rfl, (Option.some.inj he').symm⟩
theorem nA_no (hnd : (sn.map (fun s => s.1)).Nodup) (h : sn.Perm ((List.range 5).filterMap sl)) (hA : (∀ s, s ∈ sn → nI s.1 ≠ x) ∨ ((∃ s, s ∈ sn ∧ nI s.1 = x) ∧ ∀ k, k < qs.length → y ≠ nI k)) {a : Nat} {s' : Nat × Vw} {q' : Nat} {e' : Nat × (Nat → Nd)} (hB : isA sl qs x y a s' q' e') : False := by
  obtain ⟨a5, hsl, ex', he', ey'⟩ := hB
  rcases hA with hA | ⟨-, hA⟩
  · exact hA s' ((sn_ex h).mpr ⟨a, a5, hsl⟩) ex'
  · exact hA q' (get_lt he') ey'
end ASK
section CASL
variable {S T U S8 : cS} {ρ ρ' : Nat → Nat} {M Am Fm Gm : List Nat} {v v' : Nat → Int32} {f f' : Nat → Nat → Int32} {g g' : Nat → Nat → Int64} {dp x out k cd dd L : Nat} {x4 : Int32} {xs : Nat → Int32} {R : Int32 → Nat → Nat → cS → (Nat → Int32) → (Nat → Nat → Int32) → (Nat → Nat → Int64) → Prop}
variable {n : Nat} {P : Nat → Nat} {ks : Nat} {A : Nat → Int64} {yn : Nat} {F G : Nat → Int64} {ad : Bool} {c0 c1 n0 : Nat} {P0 : Nat → Nat} {n1 : Nat} {P1 : Nat → Nat} {WL : List Int64} {mc ms : Nat}
variable {so : Nat → Nat} {sd : Nat → List Nat} {sg : Nat → List Dc} {made : Nat} {B : List Dc} {ix : Vw} {mg : Option (Vw × Nat)} {cm pr : Option Vw} {sn : List (Nat × Vw)} {op fi w : Nat} {cc : Option Nat} {off : Bool} {dn : Nat} {hd : Nat → Nat → Nat} {sl : Nat → Option (Nat × Vw)} {m : Nat} {nd : Nat → Nd} {qs : List (Nat × (Nat → Nd))} {w0 w1 : Nat} {H : List (Nat × Nat)} {sk tk : Nat} {CL : List (Nat × Nat × Nat)} {u : Nat} {RR : List (Nat × Nat)}
/-- what a search leaves -/
theorem Rel_F (hl : Lp k WL S ρ x v f g n P ks A yn F G ad c0 c1 n0 P0 n1 P1) (a1 : gIx S ρ dp x so sd sg made B ix mg cm pr sn op fi w cc off) (a2 : ixM made ix mg cm pr sn) (a3 : gPr S ρ dp x m nd) (a4 : gQl S ρ dp x qs) (a7 : rI v f g (lgT ks A yn F G) made dn sg hd B ix mg cm pr sl op fi w cc off) (a8 : rQ v f g m nd qs) (b1 : pI k WL (lgT ks A yn F G) ad sg made B ix mg cm pr sn sl op cc off) (b2 : pQ m nd qs) (b7 : cd + 610 * (B.length + mgC mg) ≤ 174 + 1170 * k) (b8 : dd + 7000 * (B.length + mgC mg) ≤ 409927 + 13440 * k) (fT : fk S T ρ ρ' M) (hρ : ∀ a, a ∈ cL S → ρ' a = ρ a) (hM : dj [1, 2, 3, 4, 5, 6, 7, 8, 9, 10, 11, 12, 13, 14, 16, 17] M) (gR : gRd T ρ' x w0 w1) (gF : gFn T ρ' x H sk tk CL u (mbQ qs sg) sg) (f90 : fr T U ρ' ρ' [90]) (oU : cA U out 15 ∧ cn U out = 1 ∧ ρ' out = 90) (hF : rF Am Fm Gm v f g v' f' g') (h1 : dj (lIv ++ [71, 72, 73, 2, 6, 9, 10, 13, 14]) Am) (h2 : dj (lIf ++ [40, 41, 42, 43, 44, 46, 47, 48, 2, 8]) Fm) (h3 : dj [12, 17, 45, 1, 4, 5, 6, 7] Gm) (rF' : rFi v' f' w0 w1 H sk tk RR) (b3 : pF (k + 1) made qs w0 w1 CL u RR) (hm : mc ≤ 1170) (hs : ms ≤ 13440) : Rel (k + 1) U dp x out v' f' g' (cd + mc) (dd + ms) := by
  have hx := hl.1
  have xT : ∀ q, cr T q x = cr S q x := fun q => fr_cr fT.1 hx.1 (by rw [hx.2.1]; exact dj_n hM (by decide))
  have xTi : ∀ q, ci T q x = ci S q x := fun q => fr_ci fT.1 hx.1 (by rw [hx.2.1]; exact dj_n hM (by decide))
  have xρ : ρ' x = 1 := (hρ x hx.1.1).trans hx.2.1
  have xA : cA T x 11 := fr_A fT.1 hx.1
  have xU : ∀ q, cr U q x = cr T q x := fun q => fr_cr f90 xA (by rw [xρ]; decide)
  have xUi : ∀ q, ci U q x = ci T q x := fun q => fr_ci f90 xA (by rw [xρ]; decide)
  have h18 : ∀ a, a ∈ cL S → ρ a = 18 → ρ' a = 18 := fun a ha e => (hρ a ha).trans e
  have gI := gIx_fk fT (dj_sub hM (by decide)) a2 xρ (fun q _ => xT q) (fun q _ => xTi q) a1
  have gP : gPr T ρ' dp x m nd := by
    obtain ⟨q, e, gq⟩ := a3
    exact ⟨q, (xT _).trans e, gQy_fr fT.1 (dj_n hM (by decide)) (dj_n hM (by decide)) h18 gq⟩
  have gQ : gQl T ρ' dp x qs := by
    obtain ⟨ql, l, lm, e, g1, g2, g3, g4, g5⟩ := a4
    obtain ⟨k1, k2⟩ := fr_ls fT.1 (dj_n hM (by decide)) g1 g2
    exact ⟨ql, l, lm, (xT _).trans e, k1, k2, g3, g4, parL_imp (fun q e g => gQy_fr fT.1 (dj_n hM (by decide)) (dj_n hM (by decide)) h18 g) g5⟩
  obtain ⟨hl1, hl2, hl3, hl4⟩ := hl
  have gL : gLD T ρ' x n P ks A yn F G ad (nI c0) (nI c1) n0 P0 n1 P1 := gLD_f fT.1 (dj_sub hM (by decide)) xρ (fun q _ => xT q) hl1
  obtain ⟨h1a, h1b⟩ := dj_app h1
  obtain ⟨h2a, h2b⟩ := dj_app h2
  exact ⟨ρ', WL, n, P, ks, A, yn, F, G, ad, c0, c1, n0, P0, n1, P1, ⟨gLD_90 f90 gL, rL_fr hF (dj_sub h1b (by decide)) (dj_sub h2b (by decide)) (dj_sub h3 (by decide)) hl2, by omega, hl4⟩, oU, so, sd, sg, made, B, ix, mg, cm, pr, sn, op, fi, w, cc, off, dn, hd, sl, m, nd, qs, w0, w1, H, sk, tk, CL, u, RR, ⟨gIx_fk (fr_fk f90 (by decide)) (by decide) a2 xρ (fun q _ => xU q) (fun q _ => xUi q) gI, a2⟩, ⟨gPr_f f90 (by decide) (by decide) (by decide) (xU _) gP, gQl_f f90 (by decide) (by decide) (by decide) (xU _) gQ⟩, ⟨gRd_f f90 (by decide) (xU _) gR, gFn_f f90 (by decide) (xU _) (xU _) gF⟩, rI_fr hF h1a h2a (dj_sub h3 (by decide)) a7, rQ_fr hF (dj_sub h1b (by decide)) (dj_sub h2b (by decide)) (dj_sub h3 (by decide)) a8, rF', pI_k (by omega) (fun _ z => z) b1, b2, b3, by omega, by omega⟩
theorem pF_k (h : pF k made qs w0 w1 CL u RR) : pF (k + 1) made qs w0 w1 CL u RR := ⟨h.1, h.2.1, h.2.2.1, by have := h.2.2.2; omega⟩
/-- a read of a snapshot in rows -/
theorem rdO_F (h : rdO v v' f f') : rF [99, 60] [38, 52, 53, 54, 55, 56] [] v f g v' f' g := ⟨h.1, h.2.2, fun _ _ => rfl⟩
end CASL
