/-! both worlds together: sorting -/
theorem srW_ex {N : Nat → Nat} {dn : Bool} : ∀ k : Nat, ∃ W, srW N dn k W
  | 0 => ⟨[], srW_0⟩
  | k + 1 => by
    obtain ⟨W, hW⟩ := srW_ex (N := N) (dn := dn) k
    obtain ⟨a1, a2, a3⟩ := id hW
    have wl : W.length = k := by rw [a1.length_eq, List.length_range]
    have go : ∀ q, q ≤ k → (∀ p i, p < q → W[p]? = some i → ltB dn (N k) (N i) = false) ∨ ∃ p0, p0 ≤ k ∧ (∀ p i, p < p0 → W[p]? = some i → ltB dn (N k) (N i) = false) ∧ ∀ p i, p0 ≤ p → W[p]? = some i → ltB dn (N k) (N i) = true := by
      intro q
      induction q with
      | zero => exact fun _ => Or.inl (fun p i hp => absurd hp (Nat.not_lt_zero p))
      | succ q ih =>
        intro hq
        rcases ih (by omega) with h | h
        · obtain ⟨i0, h0⟩ := get_ex (l := W) (k := q) (by omega)
          cases c : ltB dn (N k) (N i0) with
          | false =>
            refine Or.inl (fun p i hp hi => ?_)
            by_cases e : p = q
            · rw [e, h0] at hi
              rw [← Option.some.inj hi]; exact c
            · exact h p i (by omega) hi
          | true =>
            refine Or.inr ⟨q, by omega, h, fun p i hp hi => ?_⟩
            by_cases e : p = q
            · rw [e, h0] at hi
              rw [← Option.some.inj hi]; exact c
            · have h3 := ltB_f.mp (a3 q p i0 i (by omega) h0 hi)
              have h4 := ltB_t.mp c
              refine ltB_t.mpr ?_
              cases dn with
              | true => rw [if_pos rfl] at h3 h4 ⊢; omega
              | false => rw [if_neg (by decide)] at h3 h4 ⊢; omega
        · exact Or.inr h
    rcases go k (Nat.le_refl k) with h | ⟨p0, h1, h2, h3⟩
    · exact ⟨_, srW_ins (p0 := k) hW (Nat.le_refl k) h (fun p i hp hi => absurd (get_lt hi) (by omega))⟩
    · exact ⟨_, srW_ins hW h1 h2 h3⟩
theorem splN_on {N : Nat → Nat} {dn : Bool} {k p : Nat} (hp : p < k) : ∃ i, i < k ∧ splN N dn k i = p := by
  obtain ⟨W, a1, a2, -⟩ := srW_ex (N := N) (dn := dn) k
  obtain ⟨i, hi⟩ := get_ex (l := W) (k := p) (by rw [a1.length_eq, List.length_range]; exact hp)
  exact ⟨i, List.mem_range.mp (a1.mem_iff.mp (List.mem_of_getElem? hi)), a2 p i hi⟩
theorem splN_at {N : Nat → Nat} {dn : Bool} {k i : Nat} (hi : i < k) : ∃ p W, srW N dn k W ∧ p < k ∧ W[p]? = some i ∧ splN N dn k i = p := by
  obtain ⟨W, a1, a2, a3⟩ := srW_ex (N := N) (dn := dn) k
  obtain ⟨p, hp⟩ := List.mem_iff_getElem?.mp (a1.mem_iff.mpr (List.mem_range.mpr hi))
  exact ⟨p, W, ⟨a1, a2, a3⟩, by have := get_lt hp; rw [a1.length_eq, List.length_range] at this; exact this, hp, a2 p i hp⟩
theorem splN_lt {N : Nat → Nat} {dn : Bool} {k i : Nat} (hi : i < k) : splN N dn k i < k := by
  obtain ⟨p, W, -, h, -, e⟩ := splN_at (N := N) (dn := dn) hi
  rw [e]; exact h
theorem splN_inj {N : Nat → Nat} {dn : Bool} {k i j : Nat} (hi : i < k) (hj : j < k) (h : splN N dn k i = splN N dn k j) : i = j := by
  obtain ⟨W, a1, a2, a3⟩ := srW_ex (N := N) (dn := dn) k
  obtain ⟨p, hp⟩ := List.mem_iff_getElem?.mp (a1.mem_iff.mpr (List.mem_range.mpr hi))
  obtain ⟨q, hq⟩ := List.mem_iff_getElem?.mp (a1.mem_iff.mpr (List.mem_range.mpr hj))
  have e : p = q := (a2 p i hp).symm.trans (h.trans (a2 q j hq))
  rw [e, hq] at hp
  exact (Option.some.inj hp).symm
theorem srO_F {v v' : Nat → Int32} {f f' : Nat → Nat → Int32} {g : Nat → Nat → Int64} (h : srO v v' f f') : rF [99, 60] [38, 39, 52, 53, 54, 55, 56] [] v f g v' f' g := ⟨h.1, h.2, fun _ _ => rfl⟩
section CASP
variable {S T U S8 : cS} {v v' : Nat → Int32} {f f' : Nat → Nat → Int32} {g g' : Nat → Nat → Int64} {dp x out k cd dd L : Nat} {x4 : Int32} {xs : Nat → Int32} {R : Int32 → Nat → Nat → cS → (Nat → Int32) → (Nat → Nat → Int32) → (Nat → Nat → Int64) → Prop}
theorem lc_54 (hI : Rel k S dp x out v f g cd dd) (hk : k < 512) (hx4 : x4 = nI (6 * k)) (hL : 6 * k + 6 ≤ L) (hL2 : L ≤ 3072) (hN : nxR R k dp x out x4) : lw_c54 R xs L dp x out x4 cd dd S v f g := by
  have vp1 := vp6 hx4 hL hL2 (show 1 < 6 by decide)
  have vp2 := vp6 hx4 hL hL2 (show 2 < 6 by decide)
  have vp3 := vp6 hx4 hL hL2 (show 3 < 6 by decide)
  have vp4 := vp6 hx4 hL hL2 (show 4 < 6 by decide)
  unfold lw_c54
  obtain ⟨y1, ey1⟩ : ∃ y1, y1 = xs (x4 + nI 1).toNatClampNeg := ⟨_, rfl⟩
  rw [← ey1]
  obtain ⟨y2, ey2⟩ : ∃ y2, y2 = xs (x4 + nI 2).toNatClampNeg := ⟨_, rfl⟩
  rw [← ey2]
  obtain ⟨y3, ey3⟩ : ∃ y3, y3 = xs (x4 + nI 3).toNatClampNeg := ⟨_, rfl⟩
  rw [← ey3]
  obtain ⟨y4, ey4⟩ : ∃ y4, y4 = xs (x4 + nI 4).toNatClampNeg := ⟨_, rfl⟩
  rw [← ey4]
  have hx6 := Rel_x (t := nI 1) (mc := 1) (ms := 6) (by decide) (by decide) hI
  have bd := Rel_bd (by omega) hx6
  have bd0 := Rel_bd (by omega) hI
  obtain ⟨ρ, WL, n, P, ks, A, yn, F, G, ad, c0, c1, n0, P0, n1, P1, hl, hr⟩ := id hI
  obtain ⟨o, so, sd, sg, made, B, ix, mg, cm, pr, sn, op, fi, w, cc, off, dn, hd, sl, m, nd, qs, w0, w1, H, sk, tk, CL, u, RR, ⟨a1, a2⟩, ⟨a3, a4⟩, ⟨a5, a6⟩, a7, a8, a9, b1, b2, b3, b7, b8⟩ := id hr
  obtain ⟨⟨i98, i97, i96, i39, i48⟩, iB, iS, iX, iM, iC, iP, iK, iZ, iW⟩ := id a7
  obtain ⟨⟨p1, p2, p3, p4, p5⟩, p6, p7, ⟨p8, p8b, p8c, p8d⟩, p9, p10, p11, p12, p13, p14⟩ := id b1
  have hlg := rL_lg hl.2.1
  have hpw := hl.2.1.1
  have hok : fiOk sg made sn qs w0 w1 := ⟨fun n hn => rSg_tkW iS p13 hn, by have := p14.1; omega, fun s hs => by have := vG_len (p5 s hs) (fun n hn => rSg_key iS (a2.2.2.2.2 s hs n hn)); omega, fun e he => (b2.2.2.2.2 e he).1, b3.1.1, b3.1.2⟩
  have hT : ∀ a s, a < 5 → sl a = some s → allN sg s.2.2 s.2.1 ≤ 600 := fun a s ha hs => hok.2.2.1 s ((sn_ex p8).mpr ⟨a, ha, hs⟩)
  have b31 : ∀ s, s ∈ sn → s.1 < 2 ^ 30 := fun s hs => by have := p8c s hs; omega
  have q40 := a8.2.1.2.1
  have hx61 := Rel_x (t := nI 1) (mc := 201) (ms := 4006) (by decide) (by decide) hI
  have bd2 := Rel_bd (by omega) hx61
  have dcl : ∀ (s : Nat × Vw) (e : Nat × (Nat → Nd)), s ∈ sn → (dcQ sg s.2 e).length ≤ 600 := fun s e hs => by
    have h1 := hok.2.2.1 s hs
    have h2 : (dcQ sg s.2 e).length ≤ (mtL sg s.2.2 s.2.1).length := by
      unfold dcQ
      rw [List.length_map, mtQ_filter]
      exact List.length_filter_le _ _
    rw [mtL_cnt] at h2
    omega
  refine ⟨vp1, vp2, vp3, fun cy => ⟨vp4, 201, 4006, bd2, ?_⟩, fun cy => ⟨vp4, 201, 4006, bd2, ?_⟩⟩
  · unfold kw_L_sortedAt
    rcases ask_dec (qs := qs) (x := y1) (y := y2) p8 with ⟨nA, hno⟩ | ⟨s, q, e, hs, ex, he, ey⟩
    · rcases id hno with hno1 | ⟨hex, hno1⟩
      · exact ⟨hl.1.1, Or.inr ⟨201, 4006, by omega, x_sortedAtS a1 hno1 (by omega) (by omega) ⟨by omega, vp1, vp2, vp3, fun _ => ⟨vp4, bd2, p_sortedAt (up := false) hlg p13 hpw iS iK hT a8.2.1 b2.2.2.2.2 a9.1.1 a9.1.2 b3.1 (fun _ => tl_x (by decide) bd2 upd_at (hN _ _ _ _ _ _ hx61)) (fun a s q e hA => (nA_no p8b p8 hno hA).elim) (fun a s q e p i d hA => (nA_no p8b p8 hno hA).elim)⟩, fun w => absurd cy w⟩⟩⟩
      · exact ⟨hl.1.1, Or.inr ⟨201, 4006, by omega, x_sortedAtQ a1 a4 hex hno1 (by omega) (by omega) ⟨by omega, vp1, vp2, vp3, fun _ => ⟨vp4, bd2, p_sortedAt (up := false) hlg p13 hpw iS iK hT a8.2.1 b2.2.2.2.2 a9.1.1 a9.1.2 b3.1 (fun _ => tl_x (by decide) bd2 upd_at (hN _ _ _ _ _ _ hx61)) (fun a s q e hA => (nA_no p8b p8 hno hA).elim) (fun a s q e p i d hA => (nA_no p8b p8 hno hA).elim)⟩, fun w => absurd cy w⟩⟩⟩
    · have hq40 := get_lt he
      subst ey
      by_cases hy : ∃ p, p < (dcQ sg s.2 e).length ∧ y4 = nI p
      · obtain ⟨p, hp, ey4⟩ := hy
        refine ⟨hl.1.1, Or.inl ⟨200, 4000, by omega, by omega, ?_⟩⟩
        refine g_sortedAt (dn := false) a1 a2 a4 a5 a6 hok ⟨s, hs, ex⟩ he (fun s2 hs2 ex2 => ?_) (Nat.le_refl _) (Nat.le_refl _) (fun T ρ' s2 i d hs2 ex2 fT hρ gR gF hd' hz' => cls_out (by omega) (out_fr fT.1 (by decide) o) (fun S8 f90 o8 j8 => ?_))
        · have e1 : s2 = s := sn_uq p8b hs2 hs ((nI_eq (by have := b31 s2 hs2; omega) (by have := b31 s hs; omega)).mp (ex2.trans ex.symm))
          rw [e1]
          obtain ⟨i, hi, e3⟩ := splN_on (N := dnO (dcQ sg s.2 e)) (dn := false) hp
          exact ⟨i, hi, by rw [e3, ey4]⟩
        · have e1 : s2 = s := sn_uq p8b hs2 hs ((nI_eq (by have := b31 s2 hs2; omega) (by have := b31 s hs; omega)).mp (ex2.trans ex.symm))
          subst e1
          refine ⟨vp1, vp2, vp3, fun _ => ⟨vp4, bd2, ?_⟩, fun w => absurd cy w⟩
          refine p_sortedAt (up := false) hlg p13 hpw iS iK hT a8.2.1 b2.2.2.2.2 a9.1.1 a9.1.2 b3.1 (fun w => (ask_no p8 hs ex hq40 w).elim) (fun a s' q' e' hA w => ?_) (fun a s' q' e' p' i' d' hA hp' ez hi' es v' f' hO h99 => ?_)
          · obtain ⟨rfl, rfl, rfl⟩ := isA_un p8 p8b b31 q40 hs ex he rfl hA
            exact absurd ey4 (w p hp)
          · obtain ⟨rfl, rfl, rfl⟩ := isA_un p8 p8b b31 q40 hs ex he rfl hA
            have l6 := dcl _ e' hs2
            have il := get_lt hd'
            have il' := get_lt hi'
            have sl1 := splN_lt (N := dnO (dcQ sg s'.2 e')) (dn := false) il
            have ep : splN (dnO (dcQ sg s'.2 e')) false (dcQ sg s'.2 e').length i = p' := (nI_eq (by omega) (by omega)).mp (hz'.trans ez)
            obtain rfl : i = i' := splN_inj il il' (ep.trans es.symm)
            rw [hd'] at hi'
            obtain rfl := Option.some.inj hi'
            have hF := srO_F (g := g) hO
            have hrel : Rel (k + 1) S8 dp x out v' f' g (cd + 201) (dd + 4006) := Rel_F (mc := 201) (ms := 4006) hl a1 a2 a3 a4 a7 a8 b1 b2 b7 b8 fT hρ (by decide) gR gF f90 o8 hF (by decide) (by decide) (by decide) (rFi_fr hF (by decide) (by decide) a9) (pF_k b3) (by decide) (by decide)
            exact tl_ok bd2 h99 (out_X o8) j8 (hN _ _ _ _ _ _ hrel)
      · have hno : ∀ p, p < (dcQ sg s.2 e).length → y4 ≠ nI p := fun p a b => hy ⟨p, a, b⟩
        refine ⟨hl.1.1, Or.inr ⟨201, 4006, by omega, x_sortedI (dn := false) a1 a2 a4 a5 a6 hok ⟨s, hs, ex⟩ he (fun s2 hs2 ex2 i hi w => ?_) (by omega) (by omega) (fun T ρ' s2 hs2 ex2 fT hρ gR gF => ?_)⟩⟩
        · have e1 : s2 = s := sn_uq p8b hs2 hs ((nI_eq (by have := b31 s2 hs2; omega) (by have := b31 s hs; omega)).mp (ex2.trans ex.symm))
          rw [e1] at hi w
          exact hno _ (splN_lt hi) w.symm
        · have e1 : s2 = s := sn_uq p8b hs2 hs ((nI_eq (by have := b31 s2 hs2; omega) (by have := b31 s hs; omega)).mp (ex2.trans ex.symm))
          subst e1
          refine ⟨by omega, vp1, vp2, vp3, fun _ => ⟨vp4, bd2, ?_⟩, fun w => absurd cy w⟩
          refine p_sortedAt (up := false) hlg p13 hpw iS iK hT a8.2.1 b2.2.2.2.2 a9.1.1 a9.1.2 b3.1 (fun w => (ask_no p8 hs ex hq40 w).elim) (fun a s' q' e' hA w v' f' hO h99 => ?_) (fun a s' q' e' p' i' d' hA hp' ez => ?_)
          · have hF := srO_F (g := g) hO
            have f90 : fr T T ρ' ρ' [90] := fr_rf
            have o8 := out_fr fT.1 (by decide) o
            have hrel : Rel (k + 1) T dp x out v' f' g (cd + 201) (dd + 4006) := Rel_F (mc := 201) (ms := 4006) hl a1 a2 a3 a4 a7 a8 b1 b2 b7 b8 fT hρ (by decide) gR gF f90 o8 hF (by decide) (by decide) (by decide) (rFi_fr hF (by decide) (by decide) a9) (pF_k b3) (by decide) (by decide)
            exact tl_x (by decide) bd2 h99 (hN _ _ _ _ _ _ hrel)
          · obtain ⟨rfl, rfl, rfl⟩ := isA_un p8 p8b b31 q40 hs ex he rfl hA
            exact absurd ez (hno p' hp')
  · unfold kw_L_sortedAt
    rcases ask_dec (qs := qs) (x := y1) (y := y2) p8 with ⟨nA, hno⟩ | ⟨s, q, e, hs, ex, he, ey⟩
    · rcases id hno with hno1 | ⟨hex, hno1⟩
      · exact ⟨hl.1.1, Or.inr ⟨201, 4006, by omega, x_sortedAtS a1 hno1 (by omega) (by omega) ⟨by omega, vp1, vp2, vp3, fun w => absurd w cy, fun _ => ⟨vp4, bd2, p_sortedAt (up := true) hlg p13 hpw iS iK hT a8.2.1 b2.2.2.2.2 a9.1.1 a9.1.2 b3.1 (fun _ => tl_x (by decide) bd2 upd_at (hN _ _ _ _ _ _ hx61)) (fun a s q e hA => (nA_no p8b p8 hno hA).elim) (fun a s q e p i d hA => (nA_no p8b p8 hno hA).elim)⟩⟩⟩⟩
      · exact ⟨hl.1.1, Or.inr ⟨201, 4006, by omega, x_sortedAtQ a1 a4 hex hno1 (by omega) (by omega) ⟨by omega, vp1, vp2, vp3, fun w => absurd w cy, fun _ => ⟨vp4, bd2, p_sortedAt (up := true) hlg p13 hpw iS iK hT a8.2.1 b2.2.2.2.2 a9.1.1 a9.1.2 b3.1 (fun _ => tl_x (by decide) bd2 upd_at (hN _ _ _ _ _ _ hx61)) (fun a s q e hA => (nA_no p8b p8 hno hA).elim) (fun a s q e p i d hA => (nA_no p8b p8 hno hA).elim)⟩⟩⟩⟩
    · have hq40 := get_lt he
      subst ey
      by_cases hy : ∃ p, p < (dcQ sg s.2 e).length ∧ y4 = nI p
      · obtain ⟨p, hp, ey4⟩ := hy
        refine ⟨hl.1.1, Or.inl ⟨200, 4000, by omega, by omega, ?_⟩⟩
        refine g_sortedAt (dn := true) a1 a2 a4 a5 a6 hok ⟨s, hs, ex⟩ he (fun s2 hs2 ex2 => ?_) (Nat.le_refl _) (Nat.le_refl _) (fun T ρ' s2 i d hs2 ex2 fT hρ gR gF hd' hz' => cls_out (by omega) (out_fr fT.1 (by decide) o) (fun S8 f90 o8 j8 => ?_))
        · have e1 : s2 = s := sn_uq p8b hs2 hs ((nI_eq (by have := b31 s2 hs2; omega) (by have := b31 s hs; omega)).mp (ex2.trans ex.symm))
          rw [e1]
          obtain ⟨i, hi, e3⟩ := splN_on (N := dnO (dcQ sg s.2 e)) (dn := true) hp
          exact ⟨i, hi, by rw [e3, ey4]⟩
        · have e1 : s2 = s := sn_uq p8b hs2 hs ((nI_eq (by have := b31 s2 hs2; omega) (by have := b31 s hs; omega)).mp (ex2.trans ex.symm))
          subst e1
          refine ⟨vp1, vp2, vp3, fun w => absurd w cy, fun _ => ⟨vp4, bd2, ?_⟩⟩
          refine p_sortedAt (up := true) hlg p13 hpw iS iK hT a8.2.1 b2.2.2.2.2 a9.1.1 a9.1.2 b3.1 (fun w => (ask_no p8 hs ex hq40 w).elim) (fun a s' q' e' hA w => ?_) (fun a s' q' e' p' i' d' hA hp' ez hi' es v' f' hO h99 => ?_)
          · obtain ⟨rfl, rfl, rfl⟩ := isA_un p8 p8b b31 q40 hs ex he rfl hA
            exact absurd ey4 (w p hp)
          · obtain ⟨rfl, rfl, rfl⟩ := isA_un p8 p8b b31 q40 hs ex he rfl hA
            have l6 := dcl _ e' hs2
            have il := get_lt hd'
            have il' := get_lt hi'
            have sl1 := splN_lt (N := dnO (dcQ sg s'.2 e')) (dn := true) il
            have ep : splN (dnO (dcQ sg s'.2 e')) true (dcQ sg s'.2 e').length i = p' := (nI_eq (by omega) (by omega)).mp (hz'.trans ez)
            obtain rfl : i = i' := splN_inj il il' (ep.trans es.symm)
            rw [hd'] at hi'
            obtain rfl := Option.some.inj hi'
            have hF := srO_F (g := g) hO
            have hrel : Rel (k + 1) S8 dp x out v' f' g (cd + 201) (dd + 4006) := Rel_F (mc := 201) (ms := 4006) hl a1 a2 a3 a4 a7 a8 b1 b2 b7 b8 fT hρ (by decide) gR gF f90 o8 hF (by decide) (by decide) (by decide) (rFi_fr hF (by decide) (by decide) a9) (pF_k b3) (by decide) (by decide)
            exact tl_ok bd2 h99 (out_X o8) j8 (hN _ _ _ _ _ _ hrel)
      · have hno : ∀ p, p < (dcQ sg s.2 e).length → y4 ≠ nI p := fun p a b => hy ⟨p, a, b⟩
        refine ⟨hl.1.1, Or.inr ⟨201, 4006, by omega, x_sortedI (dn := true) a1 a2 a4 a5 a6 hok ⟨s, hs, ex⟩ he (fun s2 hs2 ex2 i hi w => ?_) (by omega) (by omega) (fun T ρ' s2 hs2 ex2 fT hρ gR gF => ?_)⟩⟩
        · have e1 : s2 = s := sn_uq p8b hs2 hs ((nI_eq (by have := b31 s2 hs2; omega) (by have := b31 s hs; omega)).mp (ex2.trans ex.symm))
          rw [e1] at hi w
          exact hno _ (splN_lt hi) w.symm
        · have e1 : s2 = s := sn_uq p8b hs2 hs ((nI_eq (by have := b31 s2 hs2; omega) (by have := b31 s hs; omega)).mp (ex2.trans ex.symm))
          subst e1
          refine ⟨by omega, vp1, vp2, vp3, fun w => absurd w cy, fun _ => ⟨vp4, bd2, ?_⟩⟩
          refine p_sortedAt (up := true) hlg p13 hpw iS iK hT a8.2.1 b2.2.2.2.2 a9.1.1 a9.1.2 b3.1 (fun w => (ask_no p8 hs ex hq40 w).elim) (fun a s' q' e' hA w v' f' hO h99 => ?_) (fun a s' q' e' p' i' d' hA hp' ez => ?_)
          · have hF := srO_F (g := g) hO
            have f90 : fr T T ρ' ρ' [90] := fr_rf
            have o8 := out_fr fT.1 (by decide) o
            have hrel : Rel (k + 1) T dp x out v' f' g (cd + 201) (dd + 4006) := Rel_F (mc := 201) (ms := 4006) hl a1 a2 a3 a4 a7 a8 b1 b2 b7 b8 fT hρ (by decide) gR gF f90 o8 hF (by decide) (by decide) (by decide) (rFi_fr hF (by decide) (by decide) a9) (pF_k b3) (by decide) (by decide)
            exact tl_x (by decide) bd2 h99 (hN _ _ _ _ _ _ hrel)
          · obtain ⟨rfl, rfl, rfl⟩ := isA_un p8 p8b b31 q40 hs ex he rfl hA
            exact absurd ez (hno p' hp')
end CASP
