/-! both worlds together: shut -/
theorem fm_dn {α : Type} {sl : Nat → Option α} {a : Nat} {z : α} (hs : sl a = some z) {l : List Nat} (hd : l.Nodup) (h : a ∈ l) : (l.filterMap sl).Perm (z :: l.filterMap (upR sl a none)) := by
  have e : upR (upR sl a none) a (some z) = sl := by
    funext q
    by_cases c : q = a
    · rw [c, upR_s, hs]
    · rw [upR_n c, upR_n c]
  have := fm_up (sl := upR sl a none) (z := z) upR_s hd h
  rwa [e] at this
theorem fm_er {α : Type} {sn : List α} {sl : Nat → Option α} {a i : Nat} {z : α} (hp : sn.Perm ((List.range 5).filterMap sl)) (hs : sl a = some z) (ha : a < 5) (hi : sn[i]? = some z) : (sn.eraseIdx i).Perm ((List.range 5).filterMap (upR sl a none)) :=
  List.Perm.cons_inv (((perm_er hi).trans hp).trans (fm_dn hs List.nodup_range (List.mem_range.mpr ha)))
section CASR
variable {S T U S8 : cS} {v v' : Nat → Int32} {f f' : Nat → Nat → Int32} {g g' : Nat → Nat → Int64} {dp x out k cd dd L : Nat} {x4 : Int32} {xs : Nat → Int32} {R : Int32 → Nat → Nat → cS → (Nat → Int32) → (Nat → Nat → Int32) → (Nat → Nat → Int64) → Prop}
theorem lc_32 (hI : Rel k S dp x out v f g cd dd) (hk : k < 512) (hx4 : x4 = nI (6 * k)) (hL : 6 * k + 6 ≤ L) (hL2 : L ≤ 3072) (hN : nxR R k dp x out x4) : lw_c32 R xs L dp x out x4 cd dd S v f g := by
  have vp1 := vp6 hx4 hL hL2 (show 1 < 6 by decide)
  unfold lw_c32
  obtain ⟨y1, ey1⟩ : ∃ y1, y1 = xs (x4 + nI 1).toNatClampNeg := ⟨_, rfl⟩
  rw [← ey1]
  have hx6 := Rel_x (t := nI 1) (mc := 1) (ms := 6) (by decide) (by decide) hI
  have bd := Rel_bd (by omega) hx6
  have bd0 := Rel_bd (by omega) hI
  obtain ⟨ρ, WL, n, P, ks, A, yn, F, G, ad, c0, c1, n0, P0, n1, P1, hl, hr⟩ := id hI
  obtain ⟨o, so, sd, sg, made, B, ix, mg, cm, pr, sn, op, fi, w, cc, off, dn, hd, sl, m, nd, qs, w0, w1, H, sk, tk, CL, u, RR, ⟨a1, a2⟩, ⟨a3, a4⟩, ⟨a5, a6⟩, a7, a8, a9, b1, b2, b3, b7, b8⟩ := id hr
  obtain ⟨⟨i98, i97, i96, i39, i48⟩, iB, iS, iX, iM, iC, iP, iK, iZ, iW⟩ := id a7
  obtain ⟨⟨p1, p2, p3, p4, p5⟩, p6, p7, ⟨p8, p8b, p8c, p8d⟩, p9, p10, p11, p12, p13, p14⟩ := id b1
  have hx61 := Rel_x (t := nI 1) (mc := 1) (ms := 206) (by decide) (by decide) hI
  have bd2 := Rel_bd (by omega) hx61
  have p142 := p14.2
  have p141 := p14.1
  have b31 : ∀ s, s ∈ sn → s.1 < 2 ^ 30 := fun s hs => by have := p8c s hs; omega
  refine ⟨vp1, 1, 206, bd2, ?_⟩
  unfold kw_L_shut
  have h53 : mg ≠ none → v 53 = nI (mgC mg) := fun h => by
    cases e : mg with
    | none => exact absurd e h
    | some s => exact (iM.2 s.1 s.2 e).2.1
  by_cases hy : ∃ s, s ∈ sn ∧ nI s.1 = y1
  · obtain ⟨s, hs, ey⟩ := hy
    subst ey
    obtain ⟨i, hi⟩ := List.mem_iff_getElem?.mp hs
    have sub : ∀ t, t ∈ sn.eraseIdx i → t ∈ sn := fun t ht => List.mem_of_mem_eraseIdx ht
    have hM' : ixM made ix mg cm pr (sn.eraseIdx i) := ⟨a2.1, a2.2.1, a2.2.2.1, a2.2.2.2.1, fun t ht => a2.2.2.2.2 t (sub t ht)⟩
    refine ⟨hl.1.1, Or.inl ⟨1, 206, by omega, by omega, g_shut a1 a2 hi (fun t ht => by have := b31 t ht; omega) p8b (by omega) (by omega) (by omega) (by omega) (fun T ρ' eT gT => cls_out (by omega) (out_fr eT.1 (by decide) o) (fun S8 f90 o8 j8 => ⟨vp1, bd2, ?_⟩))⟩⟩
    refine p_shut iS iX iC iP iK iM.1 h53 (by omega) (fun w => ?_) (fun a s' f' ha hsl es hf hK => ?_)
    · obtain ⟨a, ha, hsl⟩ := (sn_ex p8).mp hs
      exact absurd rfl (w a s ha hsl)
    have hs' := (sn_ex p8).mpr ⟨a, ha, hsl⟩
    obtain rfl : s' = s := sn_uq p8b hs' hs ((nI_eq (by have := b31 s' hs'; omega) (by have := b31 s hs; omega)).mp es)
    have hp' := fm_er p8 hsl ha hi
    have hF : rF [99] [29] [] v f g (upd v 99 (nI 0)) f' g := ⟨fun i hi => upd_n (fun e => hi (by rw [e]; decide)), fun n hn => hf n (fun e => hn (by rw [e]; decide)), fun _ _ => rfl⟩
    have hfi : fiN sg ix mg cm pr (sn.eraseIdx i) = rfA f' sg made ix.1 mg cm pr (upR sl a none) := fiN_rfA hp' hM' (fun s h => (p3 s h).1) (fun s h => (p4 s h).1) (fun s t n j hs ht hn hn' hj => by
      rw [hf 26 (by decide), hf 28 (by decide)]
      exact ⟨(iC.2 s hs).2.2.2 n hn j hj, (iP.2 t ht).2.2.2 n hn' j hj⟩)
    have hrel : Rel (k + 1) S8 dp x out (upd v 99 (nI 0)) f' g (cd + 1) (dd + 206) := Rel_I (sn' := sn.eraseIdx i) (op' := op) hl a3 a4 a5 a6 a8 a9 b2 b3 eT gT hM' f90 o8 hF (by decide) (by decide) (by decide) ⟨⟨by rw [hF.1 98 (by decide)]; exact i98, fun q => by rw [hF.1 97 (by decide)]; exact i97 q, by rw [hF.1 96 (by decide)]; exact i96, by rw [hF.1 39 (by decide)]; exact i39, by rw [hF.1 48 (by decide)]; exact i48⟩, rB_f hF (by decide) (by decide) (by decide) iB, rS_f hF (by decide) (by decide) (by decide) iS, rX_f hF (by decide) (by decide) iX, rM_f hF (by decide) (by decide) iM, rC_f hF (by decide) (by decide) iC, rP_f hF (by decide) (by decide) iP, hK, ⟨rZ_f hF (by decide) iZ.1, rZ_f hF (by decide) iZ.2.1, rZ_f hF (by decide) iZ.2.2.1, rZ_f hF (by decide) iZ.2.2.2.1, rZ_f hF (by decide) iZ.2.2.2.2⟩, rW_f hF (by decide) iW⟩ ⟨⟨p1, p2, p3, p4, fun t ht => p5 t (sub t ht)⟩, p6, p7, ⟨hp', List.Nodup.sublist ((List.eraseIdx_sublist sn i).map _) p8b, fun t ht => p8c t (sub t ht), by omega⟩, fun w => absurd hs (by rw [(p9 w).2.2.2.2]; exact List.not_mem_nil), p10, p11, p12, p13, p14.1, by omega⟩ (fun _ _ => rfl) (Nat.le_refl _) (by omega) (by omega)
    rw [← hfi]
    exact tl_ok bd2 upd_at (out_X o8) j8 (hN _ _ _ _ _ _ hrel)
  · have hno : ∀ s, s ∈ sn → nI s.1 ≠ y1 := fun s a b => hy ⟨s, a, b⟩
    refine ⟨hl.1.1, Or.inr ⟨1, 206, by omega, x_shut a1 hno (by omega) (by omega) ⟨by omega, vp1, bd2, ?_⟩⟩⟩
    exact p_shut iS iX iC iP iK iM.1 h53 (by omega) (fun _ => tl_x (by decide) bd2 upd_at (hN _ _ _ _ _ _ hx61)) (fun a s' f' ha hsl es => absurd es (hno s' ((sn_ex p8).mpr ⟨a, ha, hsl⟩)))
end CASR
