/-! both worlds together: files -/
section CASQ
variable {S T U S8 : cS} {v v' : Nat → Int32} {f f' : Nat → Nat → Int32} {g g' : Nat → Nat → Int64} {dp x out k cd dd L : Nat} {x4 : Int32} {xs : Nat → Int32} {R : Int32 → Nat → Nat → cS → (Nat → Int32) → (Nat → Nat → Int32) → (Nat → Nat → Int64) → Prop}
theorem lc_19 (hI : Rel k S dp x out v f g cd dd) (hk : k < 512) (hN : nxR R k dp x out x4) : lw_c19 R xs L dp x out x4 cd dd S v f g := by
  unfold lw_c19
  have hx6 := Rel_x (t := nI 1) (mc := 1) (ms := 6) (by decide) (by decide) hI
  have bd := Rel_bd (by omega) hx6
  have bd0 := Rel_bd (by omega) hI
  obtain ⟨ρ, WL, n, P, ks, A, yn, F, G, ad, c0, c1, n0, P0, n1, P1, hl, hr⟩ := id hI
  obtain ⟨o, so, sd, sg, made, B, ix, mg, cm, pr, sn, op, fi, w, cc, off, dn, hd, sl, m, nd, qs, w0, w1, H, sk, tk, CL, u, RR, ⟨a1, a2⟩, ⟨a3, a4⟩, ⟨a5, a6⟩, a7, a8, a9, b1, b2, b3, b7, b8⟩ := id hr
  obtain ⟨⟨i98, i97, i96, i39, i48⟩, iB, iS, iX, iM, iC, iP, iK, iZ, iW⟩ := id a7
  obtain ⟨⟨p1, p2, p3, p4, p5⟩, p6, p7, ⟨p8, p8b, p8c, p8d⟩, p9, p10, p11, p12, p13, p14⟩ := id b1
  have hx61 := Rel_x (t := nI 1) (mc := 1) (ms := 206) (by decide) (by decide) hI
  have bd2 := Rel_bd (by omega) hx61
  have p142 := p14.2
  have p141 := p14.1
  have hfi : fiN sg ix mg cm pr sn = rfA f sg made ix.1 mg cm pr sl := fiN_rfA p8 a2 (fun s h => (p3 s h).1) (fun s h => (p4 s h).1) (fun s t n j hs ht hn hn' hj => ⟨(iC.2 s hs).2.2.2 n hn j hj, (iP.2 t ht).2.2.2 n hn' j hj⟩)
  refine ⟨1, 206, bd2, ?_⟩
  unfold kw_L_files
  have h53 : mg ≠ none → v 53 = nI (mgC mg) := fun h => by
    cases e : mg with
    | none => exact absurd e h
    | some s => exact (iM.2 s.1 s.2 e).2.1
  cases eo : off with
  | true =>
    rw [eo] at a1 i98
    refine ⟨hl.1.1, Or.inr ⟨1, 206, by omega, x_files a1 (by omega) (by omega) ⟨by omega, bd2, ?_⟩⟩⟩
    exact p_files i98 iS iX iC iP iK iM.1 h53 (by omega) (fun _ => tl_x (by decide) bd2 upd_at (hN _ _ _ _ _ _ hx61)) (fun w => absurd w (by decide))
  | false =>
    rw [eo] at a1 i98
    refine ⟨hl.1.1, Or.inl ⟨1, 206, by omega, by omega, g_files a1 a2 (by omega) (by omega) (by omega) (by omega) (fun T ρ' fT => cls_out (by omega) (out_fr fT (by decide) o) (fun S8 f90 o8 j8 => ⟨bd2, ?_⟩))⟩⟩
    refine p_files i98 iS iX iC iP iK iM.1 h53 (by omega) (fun w => absurd w (by decide)) (fun _ => ?_)
    have f1 : fr S S8 ρ ρ' [90] := fr_tr (fr_tr (fr_rf (M := [90])) fT (fun a _ w => absurd w List.not_mem_nil)) f90 (fun a ha e => by rw [fT.2 a ha List.not_mem_nil] at e; exact e)
    have hrel : Rel (k + 1) S8 dp x out (upd v 99 (nI 0)) f g (cd + 1) (dd + 206) := Rel_R hl hr f1 (by decide) o8 rF_99u (by decide) (by decide) (by decide) (by decide) (by decide)
    rw [← hfi]
    exact tl_ok bd2 upd_at (out_X o8) j8 (hN _ _ _ _ _ _ hrel)
end CASQ
