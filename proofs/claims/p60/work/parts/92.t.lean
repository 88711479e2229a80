/-! the cases of looking -/
section LT6
variable {S V T : cS} {dp x k cd dd made : Nat} {ar : Nat → Nat} {sl : Nat → List Nat}
theorem q_lk105 {Q : Int32 → cS → Prop} {dp mc ms cd dd c q m fl : Nat} {t0 : Int32} (gq : cA V q 14 ∧ cn V q = 64) (gc : cA V c 14 ∧ cn V c = 64) (hqc : c ≠ q) (c0 : cI V c 0 = nI fl) (hfl : fl < 2 ^ 31) (hk : ∀ W, lwT V W [q] → rO V W q (List.range' 2 62) → (fl = 1 → ∀ j, j < 62 → cI W q (2 + j) = cI V c (2 + j)) → k_L_looks_138 Q dp mc ms x m t0 cd dd W) : k_L_looks_105L Q dp mc ms x c q m t0 (nI 0) cd dd V := by
  have nc : c ∉ [q] := rI3.mpr hqc
  unfold k_L_looks_105L
  refine lfp_cnt 62 (fun i y => ∃ W, lwT V W [q] ∧ rO V W q (List.range' 2 62) ∧ (fl = 1 → ∀ j, j < i → cI W q (2 + j) = cI V c (2 + j)) ∧ y = (x, c, q, m, t0, nI i, cd, dd, W)) ?_ ⟨V, lw_rf, rO_rf, fun _ j hj => absurd hj (Nat.not_lt_zero j), rfl⟩
  rintro P i _ hi ⟨W, b1, b2, b3, rfl⟩ ih
  show k_L_looks_105 Q dp mc ms _ x c q m t0 (nI i) cd dd W
  have gqW := lw_row b1 gq
  have gcW := lw_row b1 gc
  unfold k_L_looks_105
  rw [nI_x 0 (by decide), lw_I b1 nc, c0]
  refine pk_le 62 i (fun d => ?_) (fun d => ⟨cX_mk gcW.1 gcW.2 (by decide) (by decide : 0 < 64) rfl, w_ne fl 1 (fun e => ?_) (fun e => ?_)⟩)
  · obtain rfl : i = 62 := by omega
    exact hk W b1 b2 b3
  · exact hk W b1 b2 (fun z => absurd z e)
  · rw [nI_add, nI_x (2 + i) (by omega)]
    refine ⟨cX_mk gcW.1 gcW.2 (by decide) (by omega : 2 + i < 64) rfl, cX_mk gqW.1 gqW.2 (by decide) (by omega : 2 + i < 64) rfl, fun S2 e2 => ?_⟩
    have w2 : lwT W S2 [q] := by rw [e2]; exact lw_SI (by simp)
    rintro _ rfl
    rw [nI_add]
    refine ih _ d ⟨S2, lw_tr b1 w2 (fun _ z => z), rO_tr b2 (by rw [e2]; exact rO_SI (K := List.range' 2 62) (List.mem_range'_1.mpr ⟨by omega, by omega⟩)) (fun _ z => z), fun z j hj => ?_, rfl⟩
    rw [e2]
    by_cases ck : j = i
    · rw [ck, cSI_s]
    · rw [cSI_o (by omega)]; exact b3 z j (by omega)
theorem q_look9 {Q : Nat → Nat → Int32 → cS → Prop} {t : Nat} (h : R6 k S dp x ar cd dd) (hk : k ≤ 250) (ht : t < 10000000) (hQ : ∀ m1 m2 T, cd + m1 ≤ 500000 → dd + m2 ≤ 5000000 → R6 (k + 1) T dp x ar (cd + m1) (dd + m2) → Q m1 m2 (bI true) T) : ∃ m1 m2, cd + m1 ≤ 500000 ∧ dd + m2 ≤ 5000000 ∧ k_L_looks (Q m1 m2) dp m1 m2 x (ar 4) (ar 6) (ar 7) (ar 9) (ar 15) (nI t) S := by
  have bd := R6_bd hk (a := 610) (b := 2200) (by decide) (by decide) h
  have hk6 := R6_k (cd' := cd + 610) (dd' := dd + 2200) (by omega) (by omega) h
  obtain ⟨ρ, ad, dn, made, sl, BL, ix, mg, cm, pr, sn, o1, o2, op, fi, w, cc, off, H, sk, tk, CL, u, R, hL, hC, hI, hT, hP, hF, hc1, hc2⟩ := id h
  obtain ⟨g1, g2, g3, g4, g5, g6, ⟨g7, g8, g9, g10⟩, g11, g12, g13⟩ := id hI
  refine ⟨610, 2200, bd.1, bd.2, ?_⟩
  unfold k_L_looks
  rw [i_mod (by omega) (by decide) (by decide)]
  have core : ∀ b : Bool, k_L_looks_12 (Q 610 2200) dp 610 2200 x (ar 4) (ar 6) (ar 7) (ar 9) (ar 15) (bI b) 0 0 S := fun b => by
    unfold k_L_looks_12
    rw [nI_x 6 (by decide), nI_x 8 (by decide), nI_x 0 (by decide), nI_x 1 (by decide), g12.2.2.1, g9.2.1.1, g12.2.2.2.2]
    refine ⟨lR_X g1 (i := 15) (by decide) (by decide), fun c => ?_, fun c => ?_⟩
    · cases off with
      | true => exact absurd rfl c
      | false =>
        refine ⟨lR_X g1 (i := 9) (by decide) (by decide), fun c => ?_, fun c => ⟨⟨by omega, by omega⟩, hQ 610 2200 S bd.1 bd.2 hk6⟩⟩
        obtain ⟨⟨p1, p2, p3, p4, p5⟩, p6, p7, ⟨p8, p8b, p8c, p8d⟩, p9, p10, p11, p12, p13, p14, p15⟩ := id hP
        cases o1 with
        | some s =>
          rw [nI_le0 (by have := g9.2.1.2; omega)] at c
          exact absurd c (Nat.succ_ne_zero _)
        | none =>
          have c15 := lR_X g1 (i := 15) (by decide) (show 8 < 17 by decide)
          refine ⟨c15, c15, fun S1 e1 => ?_⟩
          rw [nI_add] at e1
          have w1 : lwT S S1 ([9, 15].map ar) := e1 ▸ lw_SI (by simp)
          have g1' := lR_w w1 g1
          refine ⟨lR_X g1' (i := 15) (by decide) (by decide), lR_X g1' (i := 9) (by decide) (by decide), fun S2 e2 => ?_⟩
          have x8 : cI S1 (ar 15) 8 = nI (op + 1) := by rw [e1]; exact cSI_s
          rw [x8] at e2
          have w2 : lwT S S2 ([9, 15].map ar) := lw_tr w1 (e2 ▸ lw_SI (by simp)) (fun _ z => z)
          have g2' := lR_w w2 g1
          have m2 : cI S2 (ar 15) = cI S1 (ar 15) := by rw [e2]; exact cI_SI_ne (lR_ne g1 (by decide) (by decide) (by decide))
          have o2' : rO S S2 (ar 15) [8] := fun j hj => by rw [m2, e1]; exact cSI_o (by simpa using hj)
          have q0 : cI S2 (ar 9) 0 = nI (op + 1) := by rw [e2]; exact cSI_s
          have hm27 := g3.2.1.2
          have gC : vG (sgR sl) (cmV cm) ∧ vwM made (cmV cm) := by
            cases cm with
            | none => exact ⟨⟨List.nodup_nil, fun key n j d n' j' d' h => absurd h List.not_mem_nil⟩, fun n hn => absurd hn List.not_mem_nil⟩
            | some s => exact ⟨p3 s rfl, hC.2.1.2.2.1 s rfl⟩
          have gX : vG (sgR sl) ix ∧ vwM made ix := ⟨p1, hC.2.1.1⟩
          have lC : (cmV cm).1.length ≤ 27 := Nat.le_trans (nd_lt gC.1.1 gC.2) hm27
          have hs1 : sumL (fun n => (sgR sl n).length) (cmV cm).1 ≤ 10 * (cmV cm).1.length := sumL_bd (fun n hn => by rw [sgR_len]; exact (g2.2.2 n (gC.2 n hn)).2.1)
          have hs2 : sumL (fun n => (sgR sl n).length) ix.1 ≤ 10 * ix.1.length := sumL_bd (fun n hn => by rw [sgR_len]; exact (g2.2.2 n (gX.2 n hn)).2.1)
          have hlx := g5.1.2
          have hsn : sn.length < 5 := by
            rw [p8.length_eq]
            have := (fm_full (sl := slO none o2) (l := List.range 5)).1
            rw [List.length_range] at this
            rcases Nat.lt_or_ge ((List.range 5).filterMap (slO none o2)).length 5 with z | z
            · exact z
            · exact absurd rfl ((fm_full (sl := slO none o2) (l := List.range 5)).2 (by rw [List.length_range]; omega) 3 (List.mem_range.mpr (by decide)))
          have fin : ∀ V, lwT S2 V ([9].map ar) → cI V (ar 9) 0 = nI (op + 1) → lVw V (ar 9) made sl (if b = true then ix else cmV cm) → k_L_looks_138 (Q 610 2200) dp 610 2200 x (ar 15) (bI b) 0 0 V := fun V wV v0 vV => by
            have wS : lwT S V ([9, 15].map ar) := lw_tr w2 wV (fun a ha => by simp at ha ⊢; simp [ha])
            have oV : rO S V (ar 15) [8] := fun j hj => by rw [lwI g2' wV 15 rfl]; exact o2' j hj
            have v8 : cI V (ar 15) 8 = nI (op + 1) := by rw [lwI g2' wV 15 rfl, m2]; exact x8
            have gV := lR_w wS g1
            have fV := fr_lw (ρ := ρ) wS (tg_map hT rfl)
            obtain ⟨⟨so, sd, a1⟩, a2, a3, a4, a5, a6⟩ := C6_fr fV (by decide) hC
            have iV : I6 V ar dn made sl BL ix mg cm pr (some (op, if b = true then ix else cmV cm)) o2 (op + 1) fi w cc false H sk tk R := ⟨gV, sg_w g1 wS rfl g2, sz_w oV rfl g3, bf_w g1 wS rfl oV rfl g4, ix_w g1 wS rfl oV rfl g5, mg_w g1 wS rfl oV rfl g6, ⟨of_w 7 (by decide) ⟨rfl, rfl⟩ g1 wS rfl g7, of_w 8 (by decide) ⟨rfl, rfl⟩ g1 wS rfl g8, ⟨gV.1 9 (by decide), ⟨v0, by show op + 1 < _; omega⟩, fun _ => vV⟩, of_w 10 (by decide) ⟨rfl, rfl⟩ g1 wS rfl g10⟩, wr_w g1 wS rfl g11, ⟨(oV 4 (by decide)).trans g12.1, fun e => (oV 5 (by decide)).trans (g12.2.1 e), (oV 6 (by decide)).trans g12.2.2.1, (oV 7 (by decide)).trans g12.2.2.2.1, v8⟩, fi_w g1 wS rfl oV rfl g13⟩
            have vw : vG (sgR sl) (if b = true then ix else cmV cm) ∧ vwM made (if b = true then ix else cmV cm) := by
              cases b with
              | true => exact gX
              | false => exact gC
            have hp' := fm_up (a := 0) (z := (op, if b = true then ix else cmV cm)) (show slO none o2 0 = none from rfl) List.nodup_range (List.mem_range.mpr (show 0 < 5 by decide))
            rw [up_0] at hp'
            have hM' : ixM made ix mg cm pr (sn ++ [(op, if b = true then ix else cmV cm)]) := ⟨a2.1, a2.2.1, a2.2.2.1, a2.2.2.2.1, fun s hs => by
              rcases List.mem_append.mp hs with h | h
              · exact a2.2.2.2.2 s h
              · rw [List.mem_singleton.mp h]; exact vw.2⟩
            have hP' : pI (k + 1) WL6 l6 ad (sgR sl) made (BL.map dcR) ix mg cm pr (sn ++ [(op, if b = true then ix else cmV cm)]) (slO (some (op, if b = true then ix else cmV cm)) o2) (op + 1) cc false := ⟨⟨p1, p2, p3, p4, fun s hs => by
              rcases List.mem_append.mp hs with h | h
              · exact p5 s h
              · rw [List.mem_singleton.mp h]; exact vw.1⟩, p6, p7, ⟨(List.perm_append_singleton _ _).trans ((List.Perm.cons _ p8).trans hp'.symm), by
              rw [List.map_append]
              refine List.nodup_append.mpr ⟨p8b, List.nodup_cons.mpr ⟨List.not_mem_nil, List.nodup_nil⟩, fun s hs t ht e => ?_⟩
              obtain ⟨s', hs', rfl⟩ := List.mem_map.mp hs
              have := p8c s' hs'
              rw [e, List.mem_singleton.mp ht] at this
              exact absurd this (Nat.lt_irrefl _), fun s hs => by
              rcases List.mem_append.mp hs with h | h
              · have := p8c s h; omega
              · rw [List.mem_singleton.mp h]; show op < op + 1; omega, by omega⟩, fun w => absurd w (by decide), p10, p11, p12, p13, p14, by omega⟩
            unfold k_L_looks_138
            refine ⟨610, 2200, by omega, by omega, did_look a1.1.1 (g_look (b := b) a1 a2 hsn (by omega) (by omega) (by omega) (by omega) (by omega) (by omega) (fun T ρ' eT gT => ⟨by omega, ?_⟩))⟩
            have hR : R6 (k + 1) T dp x ar (cd + 610) (dd + 2200) := R6_I hL hC hT fV eT ⟨so, sd, gT⟩ hM' iV hP' hF (Nat.le_refl _) (fun _ _ => rfl) (by omega) (by omega)
            have e8 : cX T (ar 15) 14 (nI 8) ∧ cI T (ar 15) 8 = nI (op + 1) := by
              obtain ⟨gR, -, eI, -⟩ := I6_rows iV.1 hT eT.1 (by decide)
              exact ⟨lR_X gR (i := 15) (by decide) (by decide), by rw [eI 15 (by decide)]; exact v8⟩
            rw [nI_x 8 (by decide), e8.2, pk_sub (by omega)]
            exact ⟨e8.1, fun c => absurd rfl c, fun _ => ⟨by omega, hQ 610 2200 T bd.1 bd.2 hR⟩⟩
          refine w_B0 (fun eb => ?_) (fun eb => ?_)
          · subst eb
            have c2 : cI S2 (ar 7) = cI S (ar 7) := lwI g1 w2 7 rfl
            have g2q := g2'.1 9 (by decide)
            have g2c := g2'.1 7 (by decide)
            have n97 : ar 7 ≠ ar 9 := lR_ne g1 (by decide) (by decide) (by decide)
            have fin2 : ∀ S3, S3 = cSI S2 (ar 9) 1 (nI (cmV cm).1.length) → k_L_looks_105L (Q 610 2200) dp 610 2200 x (ar 7) (ar 9) (ar 15) (bI false) (nI 0) 0 0 S3 := fun S3 e3 => by
              have w3 : lwT S2 S3 ([9].map ar) := e3 ▸ lw_SI (by simp)
              have g3' := lR_w w3 g2'
              have c3 : cI S3 (ar 7) = cI S (ar 7) := (lwI g2' w3 7 rfl).trans c2
              refine q_lk105 (fl := ofO cm) (g3'.1 9 (by decide)) (g3'.1 7 (by decide)) n97 (by rw [c3]; exact g7.2.1.1) (by have := g7.2.1.2; omega) (fun V wV oV bV => ?_)
              have wV' : lwT S3 V ([9].map ar) := wV
              have q1V : cI V (ar 9) 1 = nI (cmV cm).1.length := by rw [oV 1 (by decide), e3]; exact cSI_s
              refine fin V (lw_tr w3 wV' (fun _ z => z)) (by rw [oV 0 (by decide), e3, cSI_o (by decide)]; exact q0) ?_
              rw [if_neg (by decide)]
              refine ⟨(lR_w wV' g3').1 9 (by decide), q1V, by omega, ?_⟩
              cases cm with
              | none => exact ⟨fun i n hi => absurd (get_lt hi) (Nat.not_lt_zero i), fun n hn => absurd hn List.not_mem_nil⟩
              | some s =>
                have gv := g7.2.2 (show 0 < 1 by decide)
                have bV' := bV rfl
                refine ⟨fun i n hi => ⟨?_, (gv.2.2.2.1 i n hi).2⟩, fun n hn => ?_⟩
                · have := get_lt hi
                  have hl3 := gv.2.2.1
                  rw [bV' i (by omega), c3]
                  exact (gv.2.2.2.1 i n hi).1
                · have hn27 := gC.2 n hn
                  have := bV' (30 + n) (by omega)
                  rw [show 2 + (30 + n) = 32 + n by omega] at this
                  rw [this, c3]
                  exact gv.2.2.2.2 n hn
            rw [c2, g7.2.1.1]
            refine ⟨lR_X g2' (i := 7) (by decide) (by decide), ?_⟩
            unfold k_L_looks_101
            rw [nI_x 1 (by decide)]
            cases cm with
            | none => exact ⟨fun _ => ⟨lR_X g2' (i := 9) (by decide) (by decide), fun S3 e3 => fin2 S3 e3⟩, fun c => absurd c (by decide)⟩
            | some s =>
              rw [(g7.2.2 (show 0 < 1 by decide)).2.1]
              exact ⟨fun c => absurd rfl c, fun _ => ⟨lR_X g2' (i := 7) (by decide) (by decide), lR_X g2' (i := 9) (by decide) (by decide), fun S3 e3 => fin2 S3 e3⟩⟩
          · subst eb
            refine ⟨⟨by omega, by omega⟩, q_L_names (ids := ix.1) (g2'.1 9 (by decide)) (g2'.1 6 (by decide)) (g2'.1 4 (by decide)) (g2'.1 15 (by decide)) (lR_ne g1 (by decide) (by decide) (by decide)) (lR_ne g1 (by decide) (by decide) (by decide)) (lR_ne g1 (by decide) (by decide) (by decide)) (by omega) ((o2' 3 (by decide)).trans g5.1.1) (fun V wV oV v1 v2 v3 => ?_)⟩
            have wV' : lwT S2 V ([9].map ar) := wV
            refine fin V wV' (by rw [oV 0 (by decide)]; exact q0) ?_
            rw [if_pos rfl]
            refine ⟨(lR_w wV' g2').1 9 (by decide), v1, by omega, fun i n hi => ⟨?_, gX.2 n (List.mem_of_getElem? hi)⟩, fun n hn => ?_⟩
            · rw [v2 i (get_lt hi), lwI g1 w2 6 rfl]
              exact (g5.2.1 i n hi).1
            · have := gX.2 n hn
              rw [v3 n (by omega), lwI g1 w2 4 rfl]
              exact g5.2.2 n hn
    · cases off with
      | false => exact absurd c (by decide)
      | true =>
        obtain ⟨⟨so, sd, a1⟩, a2, a3, a4, a5, a6⟩ := hC
        refine ⟨610, 2200, by omega, by omega, didX_look a1.1.1 (by omega) (x_look a1 (Or.inl rfl) (by omega) (by omega) ⟨by omega, fun c => absurd rfl c, fun _ => ⟨by omega, hQ 610 2200 S bd.1 bd.2 hk6⟩⟩)⟩
  have hm : t % 3 < 3 := Nat.mod_lt _ (by decide)
  exact ⟨fun _ => core false, fun _ => core true⟩
theorem q_look10 {Q : Nat → Nat → Int32 → cS → Prop} {t : Nat} (h : R6 k S dp x ar cd dd) (hk : k ≤ 250) (ht : t < 10000000) (hQ : ∀ m1 m2 T, cd + m1 ≤ 500000 → dd + m2 ≤ 5000000 → R6 (k + 1) T dp x ar (cd + m1) (dd + m2) → Q m1 m2 (bI true) T) : ∃ m1 m2, cd + m1 ≤ 500000 ∧ dd + m2 ≤ 5000000 ∧ k_L_looks (Q m1 m2) dp m1 m2 x (ar 4) (ar 6) (ar 7) (ar 10) (ar 15) (nI t) S := by
  have bd := R6_bd hk (a := 610) (b := 2200) (by decide) (by decide) h
  have hk6 := R6_k (cd' := cd + 610) (dd' := dd + 2200) (by omega) (by omega) h
  obtain ⟨ρ, ad, dn, made, sl, BL, ix, mg, cm, pr, sn, o1, o2, op, fi, w, cc, off, H, sk, tk, CL, u, R, hL, hC, hI, hT, hP, hF, hc1, hc2⟩ := id h
  obtain ⟨g1, g2, g3, g4, g5, g6, ⟨g7, g8, g9, g10⟩, g11, g12, g13⟩ := id hI
  refine ⟨610, 2200, bd.1, bd.2, ?_⟩
  unfold k_L_looks
  rw [i_mod (by omega) (by decide) (by decide)]
  have core : ∀ b : Bool, k_L_looks_12 (Q 610 2200) dp 610 2200 x (ar 4) (ar 6) (ar 7) (ar 10) (ar 15) (bI b) 0 0 S := fun b => by
    unfold k_L_looks_12
    rw [nI_x 6 (by decide), nI_x 8 (by decide), nI_x 0 (by decide), nI_x 1 (by decide), g12.2.2.1, g10.2.1.1, g12.2.2.2.2]
    refine ⟨lR_X g1 (i := 15) (by decide) (by decide), fun c => ?_, fun c => ?_⟩
    · cases off with
      | true => exact absurd rfl c
      | false =>
        refine ⟨lR_X g1 (i := 10) (by decide) (by decide), fun c => ?_, fun c => ⟨⟨by omega, by omega⟩, hQ 610 2200 S bd.1 bd.2 hk6⟩⟩
        obtain ⟨⟨p1, p2, p3, p4, p5⟩, p6, p7, ⟨p8, p8b, p8c, p8d⟩, p9, p10, p11, p12, p13, p14, p15⟩ := id hP
        cases o2 with
        | some s =>
          rw [nI_le0 (by have := g10.2.1.2; omega)] at c
          exact absurd c (Nat.succ_ne_zero _)
        | none =>
          have c15 := lR_X g1 (i := 15) (by decide) (show 8 < 17 by decide)
          refine ⟨c15, c15, fun S1 e1 => ?_⟩
          rw [nI_add] at e1
          have w1 : lwT S S1 ([10, 15].map ar) := e1 ▸ lw_SI (by simp)
          have g1' := lR_w w1 g1
          refine ⟨lR_X g1' (i := 15) (by decide) (by decide), lR_X g1' (i := 10) (by decide) (by decide), fun S2 e2 => ?_⟩
          have x8 : cI S1 (ar 15) 8 = nI (op + 1) := by rw [e1]; exact cSI_s
          rw [x8] at e2
          have w2 : lwT S S2 ([10, 15].map ar) := lw_tr w1 (e2 ▸ lw_SI (by simp)) (fun _ z => z)
          have g2' := lR_w w2 g1
          have m2 : cI S2 (ar 15) = cI S1 (ar 15) := by rw [e2]; exact cI_SI_ne (lR_ne g1 (by decide) (by decide) (by decide))
          have o2' : rO S S2 (ar 15) [8] := fun j hj => by rw [m2, e1]; exact cSI_o (by simpa using hj)
          have q0 : cI S2 (ar 10) 0 = nI (op + 1) := by rw [e2]; exact cSI_s
          have hm27 := g3.2.1.2
          have gC : vG (sgR sl) (cmV cm) ∧ vwM made (cmV cm) := by
            cases cm with
            | none => exact ⟨⟨List.nodup_nil, fun key n j d n' j' d' h => absurd h List.not_mem_nil⟩, fun n hn => absurd hn List.not_mem_nil⟩
            | some s => exact ⟨p3 s rfl, hC.2.1.2.2.1 s rfl⟩
          have gX : vG (sgR sl) ix ∧ vwM made ix := ⟨p1, hC.2.1.1⟩
          have lC : (cmV cm).1.length ≤ 27 := Nat.le_trans (nd_lt gC.1.1 gC.2) hm27
          have hs1 : sumL (fun n => (sgR sl n).length) (cmV cm).1 ≤ 10 * (cmV cm).1.length := sumL_bd (fun n hn => by rw [sgR_len]; exact (g2.2.2 n (gC.2 n hn)).2.1)
          have hs2 : sumL (fun n => (sgR sl n).length) ix.1 ≤ 10 * ix.1.length := sumL_bd (fun n hn => by rw [sgR_len]; exact (g2.2.2 n (gX.2 n hn)).2.1)
          have hlx := g5.1.2
          have hsn : sn.length < 5 := by
            rw [p8.length_eq]
            have := (fm_full (sl := slO o1 none) (l := List.range 5)).1
            rw [List.length_range] at this
            rcases Nat.lt_or_ge ((List.range 5).filterMap (slO o1 none)).length 5 with z | z
            · exact z
            · exact absurd rfl ((fm_full (sl := slO o1 none) (l := List.range 5)).2 (by rw [List.length_range]; omega) 3 (List.mem_range.mpr (by decide)))
          have fin : ∀ V, lwT S2 V ([10].map ar) → cI V (ar 10) 0 = nI (op + 1) → lVw V (ar 10) made sl (if b = true then ix else cmV cm) → k_L_looks_138 (Q 610 2200) dp 610 2200 x (ar 15) (bI b) 0 0 V := fun V wV v0 vV => by
            have wS : lwT S V ([10, 15].map ar) := lw_tr w2 wV (fun a ha => by simp at ha ⊢; simp [ha])
            have oV : rO S V (ar 15) [8] := fun j hj => by rw [lwI g2' wV 15 rfl]; exact o2' j hj
            have v8 : cI V (ar 15) 8 = nI (op + 1) := by rw [lwI g2' wV 15 rfl, m2]; exact x8
            have gV := lR_w wS g1
            have fV := fr_lw (ρ := ρ) wS (tg_map hT rfl)
            obtain ⟨⟨so, sd, a1⟩, a2, a3, a4, a5, a6⟩ := C6_fr fV (by decide) hC
            have iV : I6 V ar dn made sl BL ix mg cm pr o1 (some (op, if b = true then ix else cmV cm)) (op + 1) fi w cc false H sk tk R := ⟨gV, sg_w g1 wS rfl g2, sz_w oV rfl g3, bf_w g1 wS rfl oV rfl g4, ix_w g1 wS rfl oV rfl g5, mg_w g1 wS rfl oV rfl g6, ⟨of_w 7 (by decide) ⟨rfl, rfl⟩ g1 wS rfl g7, of_w 8 (by decide) ⟨rfl, rfl⟩ g1 wS rfl g8, of_w 9 (by decide) ⟨rfl, rfl⟩ g1 wS rfl g9, ⟨gV.1 10 (by decide), ⟨v0, by show op + 1 < _; omega⟩, fun _ => vV⟩⟩, wr_w g1 wS rfl g11, ⟨(oV 4 (by decide)).trans g12.1, fun e => (oV 5 (by decide)).trans (g12.2.1 e), (oV 6 (by decide)).trans g12.2.2.1, (oV 7 (by decide)).trans g12.2.2.2.1, v8⟩, fi_w g1 wS rfl oV rfl g13⟩
            have vw : vG (sgR sl) (if b = true then ix else cmV cm) ∧ vwM made (if b = true then ix else cmV cm) := by
              cases b with
              | true => exact gX
              | false => exact gC
            have hp' := fm_up (a := 1) (z := (op, if b = true then ix else cmV cm)) (show slO o1 none 1 = none from rfl) List.nodup_range (List.mem_range.mpr (show 1 < 5 by decide))
            rw [up_1] at hp'
            have hM' : ixM made ix mg cm pr (sn ++ [(op, if b = true then ix else cmV cm)]) := ⟨a2.1, a2.2.1, a2.2.2.1, a2.2.2.2.1, fun s hs => by
              rcases List.mem_append.mp hs with h | h
              · exact a2.2.2.2.2 s h
              · rw [List.mem_singleton.mp h]; exact vw.2⟩
            have hP' : pI (k + 1) WL6 l6 ad (sgR sl) made (BL.map dcR) ix mg cm pr (sn ++ [(op, if b = true then ix else cmV cm)]) (slO o1 (some (op, if b = true then ix else cmV cm))) (op + 1) cc false := ⟨⟨p1, p2, p3, p4, fun s hs => by
              rcases List.mem_append.mp hs with h | h
              · exact p5 s h
              · rw [List.mem_singleton.mp h]; exact vw.1⟩, p6, p7, ⟨(List.perm_append_singleton _ _).trans ((List.Perm.cons _ p8).trans hp'.symm), by
              rw [List.map_append]
              refine List.nodup_append.mpr ⟨p8b, List.nodup_cons.mpr ⟨List.not_mem_nil, List.nodup_nil⟩, fun s hs t ht e => ?_⟩
              obtain ⟨s', hs', rfl⟩ := List.mem_map.mp hs
              have := p8c s' hs'
              rw [e, List.mem_singleton.mp ht] at this
              exact absurd this (Nat.lt_irrefl _), fun s hs => by
              rcases List.mem_append.mp hs with h | h
              · have := p8c s h; omega
              · rw [List.mem_singleton.mp h]; show op < op + 1; omega, by omega⟩, fun w => absurd w (by decide), p10, p11, p12, p13, p14, by omega⟩
            unfold k_L_looks_138
            refine ⟨610, 2200, by omega, by omega, did_look a1.1.1 (g_look (b := b) a1 a2 hsn (by omega) (by omega) (by omega) (by omega) (by omega) (by omega) (fun T ρ' eT gT => ⟨by omega, ?_⟩))⟩
            have hR : R6 (k + 1) T dp x ar (cd + 610) (dd + 2200) := R6_I hL hC hT fV eT ⟨so, sd, gT⟩ hM' iV hP' hF (Nat.le_refl _) (fun _ _ => rfl) (by omega) (by omega)
            have e8 : cX T (ar 15) 14 (nI 8) ∧ cI T (ar 15) 8 = nI (op + 1) := by
              obtain ⟨gR, -, eI, -⟩ := I6_rows iV.1 hT eT.1 (by decide)
              exact ⟨lR_X gR (i := 15) (by decide) (by decide), by rw [eI 15 (by decide)]; exact v8⟩
            rw [nI_x 8 (by decide), e8.2, pk_sub (by omega)]
            exact ⟨e8.1, fun c => absurd rfl c, fun _ => ⟨by omega, hQ 610 2200 T bd.1 bd.2 hR⟩⟩
          refine w_B0 (fun eb => ?_) (fun eb => ?_)
          · subst eb
            have c2 : cI S2 (ar 7) = cI S (ar 7) := lwI g1 w2 7 rfl
            have g2q := g2'.1 10 (by decide)
            have g2c := g2'.1 7 (by decide)
            have n97 : ar 7 ≠ ar 10 := lR_ne g1 (by decide) (by decide) (by decide)
            have fin2 : ∀ S3, S3 = cSI S2 (ar 10) 1 (nI (cmV cm).1.length) → k_L_looks_105L (Q 610 2200) dp 610 2200 x (ar 7) (ar 10) (ar 15) (bI false) (nI 0) 0 0 S3 := fun S3 e3 => by
              have w3 : lwT S2 S3 ([10].map ar) := e3 ▸ lw_SI (by simp)
              have g3' := lR_w w3 g2'
              have c3 : cI S3 (ar 7) = cI S (ar 7) := (lwI g2' w3 7 rfl).trans c2
              refine q_lk105 (fl := ofO cm) (g3'.1 10 (by decide)) (g3'.1 7 (by decide)) n97 (by rw [c3]; exact g7.2.1.1) (by have := g7.2.1.2; omega) (fun V wV oV bV => ?_)
              have wV' : lwT S3 V ([10].map ar) := wV
              have q1V : cI V (ar 10) 1 = nI (cmV cm).1.length := by rw [oV 1 (by decide), e3]; exact cSI_s
              refine fin V (lw_tr w3 wV' (fun _ z => z)) (by rw [oV 0 (by decide), e3, cSI_o (by decide)]; exact q0) ?_
              rw [if_neg (by decide)]
              refine ⟨(lR_w wV' g3').1 10 (by decide), q1V, by omega, ?_⟩
              cases cm with
              | none => exact ⟨fun i n hi => absurd (get_lt hi) (Nat.not_lt_zero i), fun n hn => absurd hn List.not_mem_nil⟩
              | some s =>
                have gv := g7.2.2 (show 0 < 1 by decide)
                have bV' := bV rfl
                refine ⟨fun i n hi => ⟨?_, (gv.2.2.2.1 i n hi).2⟩, fun n hn => ?_⟩
                · have := get_lt hi
                  have hl3 := gv.2.2.1
                  rw [bV' i (by omega), c3]
                  exact (gv.2.2.2.1 i n hi).1
                · have hn27 := gC.2 n hn
                  have := bV' (30 + n) (by omega)
                  rw [show 2 + (30 + n) = 32 + n by omega] at this
                  rw [this, c3]
                  exact gv.2.2.2.2 n hn
            rw [c2, g7.2.1.1]
            refine ⟨lR_X g2' (i := 7) (by decide) (by decide), ?_⟩
            unfold k_L_looks_101
            rw [nI_x 1 (by decide)]
            cases cm with
            | none => exact ⟨fun _ => ⟨lR_X g2' (i := 10) (by decide) (by decide), fun S3 e3 => fin2 S3 e3⟩, fun c => absurd c (by decide)⟩
            | some s =>
              rw [(g7.2.2 (show 0 < 1 by decide)).2.1]
              exact ⟨fun c => absurd rfl c, fun _ => ⟨lR_X g2' (i := 7) (by decide) (by decide), lR_X g2' (i := 10) (by decide) (by decide), fun S3 e3 => fin2 S3 e3⟩⟩
          · subst eb
            refine ⟨⟨by omega, by omega⟩, q_L_names (ids := ix.1) (g2'.1 10 (by decide)) (g2'.1 6 (by decide)) (g2'.1 4 (by decide)) (g2'.1 15 (by decide)) (lR_ne g1 (by decide) (by decide) (by decide)) (lR_ne g1 (by decide) (by decide) (by decide)) (lR_ne g1 (by decide) (by decide) (by decide)) (by omega) ((o2' 3 (by decide)).trans g5.1.1) (fun V wV oV v1 v2 v3 => ?_)⟩
            have wV' : lwT S2 V ([10].map ar) := wV
            refine fin V wV' (by rw [oV 0 (by decide)]; exact q0) ?_
            rw [if_pos rfl]
            refine ⟨(lR_w wV' g2').1 10 (by decide), v1, by omega, fun i n hi => ⟨?_, gX.2 n (List.mem_of_getElem? hi)⟩, fun n hn => ?_⟩
            · rw [v2 i (get_lt hi), lwI g1 w2 6 rfl]
              exact (g5.2.1 i n hi).1
            · have := gX.2 n hn
              rw [v3 n (by omega), lwI g1 w2 4 rfl]
              exact g5.2.2 n hn
    · cases off with
      | false => exact absurd c (by decide)
      | true =>
        obtain ⟨⟨so, sd, a1⟩, a2, a3, a4, a5, a6⟩ := hC
        refine ⟨610, 2200, by omega, by omega, didX_look a1.1.1 (by omega) (x_look a1 (Or.inl rfl) (by omega) (by omega) ⟨by omega, fun c => absurd rfl c, fun _ => ⟨by omega, hQ 610 2200 S bd.1 bd.2 hk6⟩⟩)⟩
  have hm : t % 3 < 3 := Nat.mod_lt _ (by decide)
  exact ⟨fun _ => core false, fun _ => core true⟩
end LT6
