section LV6
variable {S V T U : cS} {dp x k cd dd : Nat} {ar : Nat → Nat}
theorem q_flushc {Q : Int32 → Int32 → Nat → Nat → cS → Prop} {G : Prop} (h : R6 k S dp x ar cd dd) (hk : k ≤ 250) (h27 : ¬ nI 27 ≤ cI S (ar 15) (nI 2).toNatClampNeg) (hG : G) (hQ : ∀ m1 m2 r T, cd + m1 ≤ 500000 → dd + m2 ≤ 5000000 → R6 (k + 1) T dp x ar (cd + m1) (dd + m2) → Q r r m1 m2 T) : cX S (ar 15) 14 (nI 6) ∧ (¬ cI S (ar 15) (nI 6).toNatClampNeg = nI 1 → G ∧ k_L_flushed (fun r V => ∃ m1 m2, cd + m1 ≤ 500000 ∧ dd + m2 ≤ 5000000 ∧ kw_L_did (fun r' T => Q r' r m1 m2 T) dp m1 m2 x (nI 0) V) dp (ar 0) (ar 1) (ar 2) (ar 3) (ar 4) (ar 5) (ar 6) (ar 8) (ar 9) (ar 10) (ar 15) S) ∧ (cI S (ar 15) (nI 6).toNatClampNeg = nI 1 → ∃ m1 m2, cd + m1 ≤ 500000 ∧ dd + m2 ≤ 5000000 ∧ kw_L_did (fun r' T => Q r' (-7) m1 m2 T) dp m1 m2 x (nI 0) S) := by
  have bd := R6_bd hk (a := 1) (b := 6) (by decide) (by decide) h
  have hk6 := R6_k (cd' := cd + 1) (dd' := dd + 6) (by omega) (by omega) h
  have hk7 := R6_k (cd' := cd + 30) (dd' := dd + 1200) (by omega) (by omega) h
  obtain ⟨ρ, ad, dn, made, sl, BL, ix, mg, cm, pr, sn, o1, o2, op, fi, w, cc, off, H, sk, tk, CL, u, R, hL, hC, hI, hT, hP, hF, hc1, hc2⟩ := id h
  obtain ⟨g1, g2, g3, g4, g5, g6, ⟨g7, g8, g9, g10⟩, g11, g12, g13⟩ := id hI
  have hm27 := g3.2.1.2
  have hb10 := g4.2.1
  have e6 : cI S (ar 15) (nI 6).toNatClampNeg = bI off := by rw [nI_x 6 (by decide)]; exact g12.2.2.1
  rw [e6]
  rw [nI_x 2 (by decide), g3.2.1.1, nI_leI (by decide) (by omega)] at h27
  refine ⟨lR_X g1 (i := 15) (by decide) (by decide), fun c => ?_, fun c => ?_⟩
  · cases off with
    | true => exact absurd rfl c
    | false =>
      have hbd2 : cd + (610 * BL.length + 30) ≤ 500000 ∧ dd + (7000 * BL.length + 1200) ≤ 5000000 := by omega
      obtain ⟨p1, p6, p7, ⟨p8, p8b, p8c, p8d⟩, p9, p10, p11, p12, p13, p14⟩ := id hP
      have hl1 := g5.1.2
      refine ⟨hG, q_L_flushed g1 p10 hb10 (by have := g3.1.2; omega) (by omega) (by omega) g3.1.1 g4.1 g3.2.1.1 g5.1.1 g12.1 (g12.2.1 rfl) (fun h0 => ?_) (fun V hn hcn hV => ?_) (fun V j hn hj hcj hV => ?_)⟩
      · have hB : BL = [] := List.eq_nil_of_length_eq_zero h0
        obtain ⟨⟨so, sd, a1⟩, a2, a3, a4, a5, a6⟩ := hC
        obtain ⟨fd, hfd⟩ := gFn_Fd a6
        refine ⟨30, 1200, by omega, by omega, did_flush a1.1.1 (g_flushO a1 a2 hfd p10 (by omega) (by omega) (by rw [List.length_map]; omega) (by rw [List.length_map]; omega) (fun _ => ⟨by omega, hQ 30 1200 _ S (by omega) (by omega) hk7⟩) (fun T ρ' A ds hB' => absurd (by rw [hB]; rfl) hB') (fun T ρ' j hB' => absurd (by rw [hB]; rfl) hB'))⟩
      · have hB : BL ≠ [] := fun e => by rw [e] at hn; exact absurd hn (Nat.lt_irrefl _)
        have fV := fr_lw (ρ := ρ) hV.1 (tg_map hT rfl)
        obtain ⟨⟨so, sd, a1⟩, a2, a3, a4, a5, a6⟩ := C6_fr fV (by decide) hC
        obtain ⟨fd, hfd⟩ := gFn_Fd a6
        have iV := I6_flush hI a2 p1.1.1 hB (by omega) hV
        refine ⟨610 * BL.length + 30, 7000 * BL.length + 1200, hbd2.1, hbd2.2, did_flush a1.1.1 (g_flushO a1 a2 hfd p10 (by omega) (by omega) (by rw [List.length_map]; omega) (by rw [List.length_map]; omega) (fun e => absurd (List.map_eq_nil_iff.mp e) hB) (fun T ρ' A ds _ _ eT gT => ⟨by omega, ?_⟩) (fun T ρ' j hB' hj hcj => absurd (hcn j hcj) (by rw [List.length_map] at hj; omega)))⟩
        refine hQ _ _ _ T hbd2.1 hbd2.2 ?_
        refine R6_I (sl' := upR sl made BL) (BL' := []) hL hC hT fV eT ⟨upR so made A, upR sd made ds, ?_⟩ (ixM_flush a2) iV (pI_flush hP a2 hB (by omega)) hF (by omega) (fun n hn => upR_n (by omega)) (by show _ + 610 * (0 + _) ≤ _; omega) (by show _ + 7000 * (0 + _) ≤ _; omega)
        rw [List.length_map] at gT
        rw [sgR_up]
        exact gT
      · have hB : BL ≠ [] := fun e => by rw [e] at hn; exact absurd hn (Nat.lt_irrefl _)
        have wV : lwT S V ([15, 8, 9, 10].map ar) := hV.1
        have fV := fr_lw (ρ := ρ) wV (tg_map hT rfl)
        obtain ⟨⟨so, sd, a1⟩, a2, a3, a4, a5, a6⟩ := C6_fr fV (by decide) hC
        obtain ⟨fd, hfd⟩ := gFn_Fd a6
        refine ⟨610 * BL.length + 30, 7000 * BL.length + 1200, hbd2.1, hbd2.2, did_flush a1.1.1 (g_flushO a1 a2 hfd p10 (by omega) (by omega) (by rw [List.length_map]; omega) (by rw [List.length_map]; omega) (fun e => absurd (List.map_eq_nil_iff.mp e) hB) (fun T ρ' A ds _ hk1 => absurd (hk1 j hcj) (by rw [List.length_map]; omega)) (fun T ρ' j' hB' hj' hcj' dT => ⟨by omega, ?_⟩))⟩
        obtain rfl : j = j' := by rw [hcj] at hcj'; exact Option.some.inj hcj'
        refine hQ _ _ _ T hbd2.1 hbd2.2 ?_
        exact R6_D (sl' := sl) (lv' := ix.2) hL hC hT fV hfd (dn_ev dT) ⟨so, sd, dn_gIx a1 a2 dT⟩ a2.2.2.1 (I6_D hI hV) (pI_D hP) hF (by omega) (by omega)
  · cases off with
    | false => exact absurd c (by decide)
    | true =>
      obtain ⟨⟨so, sd, a1⟩, a2, a3, a4, a5, a6⟩ := hC
      exact ⟨1, 6, bd.1, bd.2, didX_flush a1.1.1 (by omega) (x_flush a1 (Or.inl rfl) (by omega) (by omega) (by omega) ⟨by omega, hQ 1 6 _ S bd.1 bd.2 hk6⟩)⟩
end LV6
