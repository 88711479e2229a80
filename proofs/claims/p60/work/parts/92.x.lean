/-! the cases of merging: begun, given up -/
section LX6
variable {S V T : cS} {dp x k cd dd made : Nat} {ar : Nat → Nat} {sl : Nat → List Nat} {s : Vw}
theorem mt_a {i : Nat} {y : Nat × Nat} (h : (mtL (sgR sl) s.2 s.1)[i]? = some y) : ∃ a, (sl y.1)[y.2]? = some a ∧ (sgR sl y.1).getD y.2 dfD = dcR a ∧ (sl y.1).getD y.2 0 = a ∧ y.1 ∈ s.1 ∧ s.2 y.1 y.2 = true := by
  obtain ⟨h1, h2, h3⟩ := mt_get h
  obtain ⟨a, ha, e⟩ := sgR_get.mp h3
  exact ⟨a, ha, e.symm, by rw [List.getD_eq_getElem?_getD, ha]; rfl, h1, h2⟩
theorem mt10 (hv : vG (sgR sl) s) (hr : ∀ n, n ∈ s.1 → ∀ a, a ∈ sl n → a % 16 < 10) : (mtL (sgR sl) s.2 s.1).length ≤ 10 := by
  have h := nd_lt (N := 10) (ids := (mtL (sgR sl) s.2 s.1).map (fun y => (sl y.1).getD y.2 0 % 16)) (nd_of (fun i j c hi hj => ?_)) (fun c hc => ?_)
  · rwa [List.length_map] at h
  · rw [List.getElem?_map] at hi hj
    obtain ⟨y, hy, ey⟩ := Option.map_eq_some_iff.mp hi
    obtain ⟨z, hz, ez⟩ := Option.map_eq_some_iff.mp hj
    obtain ⟨a, a1, a2, a3, -⟩ := mt_a hy
    obtain ⟨b, b1, b2, b3, -⟩ := mt_a hz
    refine (mt_key hv hy hz ?_).1
    rw [a2, b2, dK_R, dK_R, ← a3, ← b3, ey, ez]
  · obtain ⟨y, hy, rfl⟩ := List.mem_map.mp hc
    obtain ⟨i, hi⟩ := List.mem_iff_getElem?.mp hy
    obtain ⟨a, a1, a2, a3, a4, -⟩ := mt_a hi
    rw [a3]
    exact hr _ a4 a (List.mem_of_getElem? a1)
theorem q_merge0 {Q : Nat → Nat → Int32 → cS → Prop} (h : R6 k S dp x ar cd dd) (hk : k ≤ 250) (hQ : ∀ m1 m2 T, cd + m1 ≤ 500000 → dd + m2 ≤ 5000000 → R6 (k + 1) T dp x ar (cd + m1) (dd + m2) → Q m1 m2 (bI true) T) : ∃ m1 m2, cd + m1 ≤ 500000 ∧ dd + m2 ≤ 5000000 ∧ k_L_isMerged (Q m1 m2) dp m1 m2 x (ar 2) (ar 3) (ar 4) (ar 5) (ar 6) (ar 13) (ar 8) (ar 9) (ar 10) (ar 15) (nI 0) S := by
  have bd := R6_bd hk (a := 20) (b := 400) (by decide) (by decide) h
  have hk6 := R6_k (cd' := cd + 20) (dd' := dd + 400) (by omega) (by omega) h
  obtain ⟨ρ, ad, dn, made, sl, BL, ix, mg, cm, pr, sn, o1, o2, op, fi, w, cc, off, H, sk, tk, CL, u, R, hL, hC, hI, hT, hP, hF, hc1, hc2⟩ := id h
  obtain ⟨g1, g2, g3, g4, g5, g6, ⟨g7, g8, g9, g10⟩, g11, g12, g13⟩ := id hI
  obtain ⟨⟨p1, p2, p3, p4, p5⟩, p6, p7, ⟨p8, p8b, p8c, p8d⟩, p9, p10, p11, p12, p13, p14, p15⟩ := id hP
  have hm27 := g3.2.1.2
  refine ⟨20, 400, bd.1, bd.2, ?_⟩
  unfold k_L_isMerged
  refine ⟨fun c => absurd rfl c, fun _ => ⟨⟨by omega, by omega⟩, ?_⟩⟩
  have no : ∀ r, (off = true ∨ (∀ k, ¬ dueI (sgR sl) ix.1 k) ∨ mg ≠ none) → k_L_isMerged_41 (Q 20 400) dp 20 400 x (ar 3) (ar 4) (ar 6) (ar 13) (ar 15) r (nI 0) 0 0 S := fun r hno => by
    unfold k_L_isMerged_41 k_L_isMerged_157
    refine ⟨fun _ => ?_, fun c => absurd rfl c⟩
    obtain ⟨⟨so, sd, a1⟩, a2, a3, a4, a5, a6⟩ := hC
    refine ⟨20, 400, by omega, by omega, didX_merge a1.1.1 (by omega) (x_merge a1 (hno.imp (fun z => z) (fun z => z.imp (fun z => z) Or.inl)) (by omega) (by omega) (by omega) ⟨by omega, fun _ => ?_, fun c => absurd rfl c⟩)⟩
    unfold k_L_isMerged_177
    exact ⟨fun c => absurd rfl c, fun _ => ⟨by omega, hQ 20 400 S bd.1 bd.2 hk6⟩⟩
  have e6 : cI S (ar 15) (nI 6).toNatClampNeg = bI off := by rw [nI_x 6 (by decide)]; exact g12.2.2.1
  have e9 : cI S (ar 15) (nI 9).toNatClampNeg = bI mg.isSome := by rw [nI_x 9 (by decide)]; exact g6.1
  refine q_L_due (xi_of hI) (fun hd => ?_) (fun p hd hmin hp30 => ?_)
  · rw [e6]
    refine ⟨lR_X g1 (i := 15) (by decide) (by decide), fun _ => no _ (Or.inr (Or.inl hd)), fun _ => ⟨fun _ => no _ (Or.inr (Or.inl hd)), fun c => absurd (by decide) c⟩⟩
  · rw [e6, e9]
    refine ⟨lR_X g1 (i := 15) (by decide) (by decide), w_Bn (fun e => no _ (Or.inl e)) (fun eo => ⟨fun c => absurd c (nI_pos (by omega)), fun _ => ⟨lR_X g1 (i := 15) (by decide) (by decide), w_Bn (fun e => no _ (Or.inr (Or.inr (fun e2 => by rw [e2] at e; exact absurd e (by decide))))) (fun em => ?_)⟩⟩)⟩
    have hmg : mg = none := by
      cases mg with
      | none => rfl
      | some s => exact absurd em (by simp)
    subst hmg eo
    have hlen := due_len hd
    unfold k_L_isMerged_41
    refine ⟨fun c => absurd c (by decide), fun _ => ?_⟩
    rw [nI_x 9 (by decide), nI_x 10 (by decide), nI_x 11 (by decide), nI_x 12 (by decide)]
    refine ⟨lR_X g1 (i := 15) (by decide) (by decide), fun S1 e1 => ?_⟩
    have w1 : lwT S S1 ([13, 15].map ar) := e1 ▸ lw_SI (by simp)
    refine ⟨lR_X (lR_w w1 g1) (i := 15) (by decide) (by decide), fun S2 e2 => ?_⟩
    have w2 : lwT S S2 ([13, 15].map ar) := lw_tr w1 (e2 ▸ lw_SI (by simp)) (fun _ z => z)
    refine ⟨lR_X (lR_w w2 g1) (i := 15) (by decide) (by decide), fun S3 e3 => ?_⟩
    have w3 : lwT S S3 ([13, 15].map ar) := lw_tr w2 (e3 ▸ lw_SI (by simp)) (fun _ z => z)
    refine ⟨lR_X (lR_w w3 g1) (i := 15) (by decide) (by decide), fun S4 e4 => ?_⟩
    have w4 : lwT S S4 ([13, 15].map ar) := lw_tr w3 (e4 ▸ lw_SI (by simp)) (fun _ z => z)
    refine q_mg77 (lv := ix.2) g1 (xi_of hI) g5.2.2 (by omega) ⟨w4, fun q hq => ?_, ⟨?_, ?_, ?_, ?_⟩, fun i z hz => absurd (get_lt hz) (Nat.not_lt_zero i)⟩ (fun V hV => ?_)
    · simp at hq
      rw [e4, cSI_o hq.2.2.2, e3, cSI_o hq.2.2.1, e2, cSI_o hq.2.1, e1, cSI_o hq.1]
    · rw [e4, cSI_o (by decide), e3, cSI_o (by decide), e2, cSI_o (by decide), e1, cSI_s]
    · rw [e4, cSI_o (by decide), e3, cSI_o (by decide), e2, cSI_s]
    · rw [e4, cSI_o (by decide), e3, cSI_s]
    · rw [e4, cSI_s]; rfl
    · obtain ⟨wV, oV, ⟨m9, m10, m11, m12⟩, yV⟩ := hV
      have fV := fr_lw (ρ := ρ) wV (tg_map hT rfl)
      obtain ⟨⟨so, sd, a1⟩, a2, a3, a4, a5, a6⟩ := C6_fr fV (by decide) hC
      have sub : ((ix.1.drop p).take 3).Sublist ix.1 := (List.take_sublist _ _).trans (List.drop_sublist _ _)
      have hl10 : (mtL (sgR sl) ix.2 ((ix.1.drop p).take 3)).length ≤ 10 := mt10 (s := ((ix.1.drop p).take 3, ix.2)) (vG_sub p1 sub) (fun n hn a ha => (g3.2.2.1 n (a2.1 n (sub.subset hn)) a ha).2.1)
      have iV : I6 V ar dn made sl BL ix (some (((ix.1.drop p).take 3, ix.2), 0)) cm pr o1 o2 op fi w cc false H sk tk R := ⟨lR_w wV g1, sg_w g1 wV rfl g2, sz_w oV rfl g3, bf_w g1 wV rfl oV rfl g4, ix_w g1 wV rfl oV rfl g5, ⟨m9, fun s c e => by
          obtain ⟨rfl, rfl⟩ := Prod.mk.inj (Option.some.inj e)
          exact ⟨⟨p, m10, by omega, rfl⟩, m11, m12, hl10, Nat.zero_le _, yV⟩⟩, ⟨of_w 7 (by decide) ⟨rfl, rfl⟩ g1 wV rfl g7, of_w 8 (by decide) ⟨rfl, rfl⟩ g1 wV rfl g8, of_w 9 (by decide) ⟨rfl, rfl⟩ g1 wV rfl g9, of_w 10 (by decide) ⟨rfl, rfl⟩ g1 wV rfl g10⟩, wr_w g1 wV rfl g11, nm_w oV rfl g12, fi_w g1 wV rfl oV rfl g13⟩
      have hM' : ixM made ix (some (((ix.1.drop p).take 3, ix.2), 0)) cm pr sn := ⟨a2.1, fun w e n hn => by rw [← Option.some.inj e] at hn; exact a2.1 n (sub.subset hn), a2.2.2.1, a2.2.2.2.1, a2.2.2.2.2⟩
      have hP' : pI (k + 1) WL6 l6 ad (sgR sl) made (BL.map dcR) ix (some (((ix.1.drop p).take 3, ix.2), 0)) cm pr sn (slO o1 o2) op cc false := ⟨⟨p1, fun s c e => by obtain ⟨rfl, -⟩ := Prod.mk.inj (Option.some.inj e); exact vG_sub p1 sub, p3, p4, p5⟩, p6, fun s c e => by
        obtain ⟨rfl, rfl⟩ := Prod.mk.inj (Option.some.inj e)
        refine ⟨p, by omega, by show ((ix.1.drop p).take 3).length = 3; rw [List.length_take, List.length_drop]; omega, fun a n h => ?_, Nat.zero_le _, by omega⟩
        have ha := get_lt h
        rw [List.length_take] at ha
        have h' : ((ix.1.drop p).take 3)[a]? = some n := h
        rw [List.getElem?_take_of_lt (by omega), List.getElem?_drop] at h'
        exact h', ⟨p8, p8b, p8c, by omega⟩, fun w => absurd w (by decide), p10, p11, p12, p13, p14, by simp only [mgC] at p15 ⊢; omega⟩
      unfold k_L_isMerged_157
      have hlx := g5.1.2
      refine ⟨20, 400, by omega, by omega, did_merge a1.1.1 (g_merge a1 a2 (by omega) hd hmin (by omega) (by omega) (by omega) (fun T ρ' eT gT => ⟨by omega, fun c => absurd c (by decide), fun _ => ?_⟩))⟩
      have hR : R6 (k + 1) T dp x ar (cd + 20) (dd + 400) := R6_I hL hC hT fV eT ⟨so, sd, gT⟩ hM' iV hP' hF (Nat.le_refl _) (fun _ _ => rfl) (by simp only [mgC] at hc1 ⊢; omega) (by simp only [mgC] at hc2 ⊢; omega)
      obtain ⟨gR, -, eI, -⟩ := I6_rows iV.1 hT eT.1 (by decide)
      rw [nI_x 12 (by decide), eI 15 (by decide), m12, mtL_cnt]
      refine ⟨lR_X gR (i := 15) (by decide) (by decide), ?_⟩
      unfold k_L_isMerged_177
      exact ⟨fun c => absurd rfl c, fun _ => ⟨by omega, hQ 20 400 T bd.1 bd.2 hR⟩⟩
theorem q_merge2 {Q : Nat → Nat → Int32 → cS → Prop} (h : R6 k S dp x ar cd dd) (hk : k ≤ 250) (hQ : ∀ m1 m2 T, cd + m1 ≤ 500000 → dd + m2 ≤ 5000000 → R6 (k + 1) T dp x ar (cd + m1) (dd + m2) → Q m1 m2 (bI true) T) : ∃ m1 m2, cd + m1 ≤ 500000 ∧ dd + m2 ≤ 5000000 ∧ k_L_isMerged (Q m1 m2) dp m1 m2 x (ar 2) (ar 3) (ar 4) (ar 5) (ar 6) (ar 13) (ar 8) (ar 9) (ar 10) (ar 15) (nI 2) S := by
  have bd := R6_bd hk (a := 1) (b := 6) (by decide) (by decide) h
  have hk6 := R6_k (cd' := cd + 1) (dd' := dd + 6) (by omega) (by omega) h
  obtain ⟨ρ, ad, dn, made, sl, BL, ix, mg, cm, pr, sn, o1, o2, op, fi, w, cc, off, H, sk, tk, CL, u, R, hL, hC, hI, hT, hP, hF, hc1, hc2⟩ := id h
  obtain ⟨g1, g2, g3, g4, g5, g6, ⟨g7, g8, g9, g10⟩, g11, g12, g13⟩ := id hI
  obtain ⟨⟨p1, p2, p3, p4, p5⟩, p6, p7, ⟨p8, p8b, p8c, p8d⟩, p9, p10, p11, p12, p13, p14, p15⟩ := id hP
  refine ⟨1, 6, bd.1, bd.2, ?_⟩
  have no : (off = true ∨ mg = none) → k_L_isMerged_203 (Q 1 6) dp 1 6 x (nI 2) 0 0 S := fun hno => by
    unfold k_L_isMerged_203 k_L_isMerged_215
    refine ⟨fun _ => ?_, fun c => absurd c (by decide)⟩
    obtain ⟨⟨so, sd, a1⟩, a2, a3, a4, a5, a6⟩ := hC
    exact ⟨1, 6, by omega, by omega, didX_giveUp a1.1.1 (by omega) (x_giveUp a1 hno (by omega) (by omega) ⟨by omega, fun c => absurd rfl c, fun _ => ⟨by omega, hQ 1 6 S bd.1 bd.2 hk6⟩⟩)⟩
  have e6 : cI S (ar 15) (nI 6).toNatClampNeg = bI off := by rw [nI_x 6 (by decide)]; exact g12.2.2.1
  have e9 : cI S (ar 15) (nI 9).toNatClampNeg = bI mg.isSome := by rw [nI_x 9 (by decide)]; exact g6.1
  unfold k_L_isMerged
  rw [e6, e9]
  refine ⟨fun _ => ⟨lR_X g1 (i := 15) (by decide) (by decide), fun c => no (Or.inl (by cases off with | true => rfl | false => exact absurd c (by decide))), fun c => ⟨lR_X g1 (i := 15) (by decide) (by decide), w_Bn (fun e => ⟨fun c => absurd rfl c, fun _ => ?_⟩) (fun e => no (Or.inr (by cases mg with | none => rfl | some s => exact absurd e (by simp))))⟩⟩, fun c => absurd c (by decide)⟩
  cases off with
  | true => exact absurd rfl c
  | false =>
    cases mg with
    | none => exact absurd e (by decide)
    | some sc =>
      obtain ⟨s0, c0⟩ := sc
      obtain ⟨-, m11, m12, -⟩ := g6.2 s0 c0 rfl
      rw [nI_x 9 (by decide)]
      refine ⟨lR_X g1 (i := 15) (by decide) (by decide), fun V eV => ?_⟩
      have wV : lwT S V ([15].map ar) := eV ▸ lw_SI (by simp)
      have oV : rO S V (ar 15) [9] := fun j hj => by rw [eV]; exact cSI_o (by simpa using hj)
      have v9 : cI V (ar 15) 9 = nI 0 := by rw [eV]; exact cSI_s
      have fV := fr_lw (ρ := ρ) wV (tg_map hT rfl)
      obtain ⟨⟨so, sd, a1⟩, a2, a3, a4, a5, a6⟩ := C6_fr fV (by decide) hC
      have iV : I6 V ar dn made sl BL ix none cm pr o1 o2 op fi w cc false H sk tk R := ⟨lR_w wV g1, sg_w g1 wV rfl g2, sz_w oV rfl g3, bf_w g1 wV rfl oV rfl g4, ix_w g1 wV rfl oV rfl g5, ⟨v9, fun s c e => absurd e (by simp)⟩, ⟨of_w 7 (by decide) ⟨rfl, rfl⟩ g1 wV rfl g7, of_w 8 (by decide) ⟨rfl, rfl⟩ g1 wV rfl g8, of_w 9 (by decide) ⟨rfl, rfl⟩ g1 wV rfl g9, of_w 10 (by decide) ⟨rfl, rfl⟩ g1 wV rfl g10⟩, wr_w g1 wV rfl g11, nm_w oV rfl g12, fi_w g1 wV rfl oV rfl g13⟩
      refine ⟨1, 6, by omega, by omega, did_giveUp a1.1.1 (g_giveUp a1 a2 (fun T eT gT => ⟨by omega, ?_⟩))⟩
      have hR : R6 (k + 1) T dp x ar (cd + 1) (dd + 6) := R6_I hL hC hT fV eT ⟨so, sd, gT⟩ ⟨a2.1, fun w e => absurd e (by simp), a2.2.2.1, a2.2.2.2.1, a2.2.2.2.2⟩ iV ⟨⟨p1, fun s c e => absurd e (by simp), p3, p4, p5⟩, p6, fun s c e => absurd e (by simp), ⟨p8, p8b, p8c, by omega⟩, fun w => absurd w (by decide), p10, p11, p12, p13, p14, by simp only [mgC] at p15 ⊢; omega⟩ hF (Nat.le_refl _) (fun _ _ => rfl) (by simp only [mgC] at hc1 ⊢; omega) (by simp only [mgC] at hc2 ⊢; omega)
      obtain ⟨gR, -, eI, -⟩ := I6_rows iV.1 hT eT.1 (by decide)
      rw [nI_x 11 (by decide), eI 15 (by decide), oV 11 (by decide), m11]
      exact ⟨lR_X gR (i := 15) (by decide) (by decide), fun c => absurd rfl c, fun _ => ⟨by omega, hQ 1 6 T bd.1 bd.2 hR⟩⟩
end LX6
