section LR6
variable {S V T : cS} {dp x k cd dd made : Nat} {ar : Nat → Nat} {sl : Nat → List Nat}
theorem nd_lt {ids : List Nat} {N : Nat} (h : ids.Nodup) (hb : ∀ n, n ∈ ids → n < N) : ids.length ≤ N := by
  have := nd_len h (m := List.range N) (fun n hn => List.mem_range.mpr (hb n hn))
  rwa [List.length_range] at this
theorem q_opens {Q : Nat → Nat → Int32 → cS → Prop} (h : R6 k S dp x ar cd dd) (hk : k ≤ 250) (hQ : ∀ m1 m2 T, cd + m1 ≤ 500000 → dd + m2 ≤ 5000000 → R6 (k + 1) T dp x ar (cd + m1) (dd + m2) → Q m1 m2 (bI true) T) : ∃ m1 m2, cd + m1 ≤ 500000 ∧ dd + m2 ≤ 5000000 ∧ k_L_opens (Q m1 m2) dp m1 m2 x (ar 4) (ar 5) (ar 6) (ar 7) (ar 15) S := by
  have bd := R6_bd hk (a := 610) (b := 2200) (by decide) (by decide) h
  have hk6 := R6_k (cd' := cd + 610) (dd' := dd + 2200) (by omega) (by omega) h
  obtain ⟨ρ, ad, dn, made, sl, BL, ix, mg, cm, pr, sn, o1, o2, op, fi, w, cc, off, H, sk, tk, CL, u, R, hL, hC, hI, hT, hP, hF, hc1, hc2⟩ := id h
  obtain ⟨g1, g2, g3, g4, g5, g6, ⟨g7, g8, g9, g10⟩, g11, g12, g13⟩ := id hI
  refine ⟨610, 2200, bd.1, bd.2, ?_⟩
  unfold k_L_opens
  rw [nI_x 6 (by decide), nI_x 5 (by decide), g12.2.2.1]
  refine ⟨lR_X g1 (i := 15) (by decide) (by decide), w_Bn (fun e => ?_) (fun e => ?_)⟩
  · subst e
    obtain ⟨⟨p1, p2, p3, p4, p5⟩, p6, p7, ⟨p8, p8b, p8c, p8d⟩, p9, p10, p11, p12, p13, p14, p15⟩ := id hP
    obtain ⟨z1, z2, z3, z4, z5⟩ := p9 rfl
    have z2' : BL = [] := List.map_eq_nil_iff.mp z2
    subst z2' z3 z4 z5
    obtain ⟨rfl, rfl⟩ := sl_nil p8
    have hcm : vwM made (cmV cm) := by
      cases cm with
      | none => exact fun n hn => absurd hn List.not_mem_nil
      | some s =>
        obtain ⟨-, a2, -⟩ := hC
        exact a2.2.2.1 s rfl
    have gC : vG (sgR sl) (cmV cm) := by
      cases cm with
      | none => exact ⟨List.nodup_nil, fun key n j d n' j' d' h => absurd h List.not_mem_nil⟩
      | some s => exact p3 s rfl
    have hm27 := g3.2.1.2
    have hl : (cmV cm).1.length ≤ 27 := Nat.le_trans (nd_lt gC.1 hcm) hm27
    have hc : (∀ i n, (cmV cm).1[i]? = some n → cI S (ar 7) (2 + i) = nI n ∧ n < 27) ∧ ∀ n, n ∈ (cmV cm).1 → cI S (ar 7) (32 + n) = nI (bN ((cmV cm).2 n) (sl n).length) := by
      cases cm with
      | none => exact ⟨fun i n hi => absurd (get_lt hi) (Nat.not_lt_zero i), fun n hn => absurd hn List.not_mem_nil⟩
      | some s =>
        have gv := g7.2.2 (show 0 < 1 by decide)
        exact ⟨fun i n hi => ⟨(gv.2.2.2.1 i n hi).1, by have := (gv.2.2.2.1 i n hi).2; omega⟩, gv.2.2.2.2⟩
    refine ⟨lR_X g1 (i := 15) (by decide) (by decide), fun S1 e1 => ?_⟩
    have w1 : lwT S S1 ([15].map ar) := e1 ▸ lw_SI (by simp)
    have g1' := lR_w w1 g1
    refine ⟨lR_X g1' (i := 15) (by decide) (by decide), fun S2 e2 => ?_⟩
    have w2 : lwT S S2 ([15].map ar) := lw_tr w1 (e2 ▸ lw_SI (by simp)) (fun _ z => z)
    have g2' := lR_w w2 g1
    have o2 : rO S S2 (ar 15) [3, 5, 6] := fun j hj => by
      simp at hj
      rw [e2, cSI_o hj.2.1, e1, cSI_o hj.2.2]
    have c2 : cI S2 (ar 7) = cI S (ar 7) := lwI g1 w2 7 rfl
    have fin : ∀ S3, S3 = cSI S2 (ar 15) 3 (nI (cmV cm).1.length) → k_L_opens_59L (Q 610 2200) dp 610 2200 x (ar 4) (ar 5) (ar 6) (ar 7) (ar 15) (nI 0) 0 0 S3 := fun S3 e3 => by
      have w3 : lwT S S3 ([15].map ar) := lw_tr w2 (e3 ▸ lw_SI (by simp)) (fun _ z => z)
      have g3' := lR_w w3 g1
      have o3 : rO S S3 (ar 15) [3, 5, 6] := fun j hj => by
        have hj' := hj
        simp at hj'
        rw [e3, cSI_o hj'.1]
        exact o2 j hj
      have c3 : cI S3 (ar 7) = cI S (ar 7) := lwI g1 w3 7 rfl
      refine q_op59 (e := fun n => bN ((cmV cm).2 n) (sl n).length) g3' hl (by rw [e3]; exact cSI_s) (fun i n hi => by rw [c3]; exact hc.1 i n hi) (fun n hn => by rw [c3]; exact hc.2 n hn) (fun V wV bV m3 => ?_)
      have wS : lwT S V ([4, 5, 6, 15].map ar) := lw_tr (lw_wk w3 (fun a ha => by simp at ha ⊢; simp [ha])) wV (fun a ha => by simp at ha ⊢; rcases ha with e | e | e <;> simp [e])
      have oV : rO S V (ar 15) [3, 5, 6] := fun j hj => by rw [lwI g3' wV 15 rfl]; exact o3 j hj
      have v5 : cI V (ar 15) 5 = -1 := by rw [lwI g3' wV 15 rfl, e3, cSI_o (by decide), e2]; exact cSI_s
      have v6 : cI V (ar 15) 6 = nI 0 := by rw [lwI g3' wV 15 rfl, e3, cSI_o (by decide), e2, cSI_o (by decide), e1]; exact cSI_s
      have fV := fr_lw (ρ := ρ) wS (tg_map hT rfl)
      obtain ⟨⟨so, sd, a1⟩, a2, a3, a4, a5, a6⟩ := C6_fr fV (by decide) hC
      have atV : ∀ n, n ∈ (cmV cm).1 → cI V (ar 4) n = nI (bN ((cmV cm).2 n) (sl n).length) ∧ cI V (ar 5) n = nI (bN ((cmV cm).2 n) (sl n).length) := fun n hn => by
        obtain ⟨i, hi⟩ := List.mem_iff_getElem?.mp hn
        exact (bV i n hi).2
      have iV : I6 V ar dn made sl [] (cmV cm) none cm none none none op fi w none false H sk tk R := ⟨lR_w wS g1, sg_w g1 wS rfl g2, sz_w oV rfl g3, bf_w g1 wS rfl oV rfl g4, ⟨⟨m3, hl⟩, fun i n hi => ⟨(bV i n hi).1, hcm n (List.mem_of_getElem? hi)⟩, fun n hn => (atV n hn).1⟩, ⟨(oV 9 (by decide)).trans g6.1, fun s c e => absurd e (by simp)⟩, ⟨of_w 7 (by decide) ⟨rfl, rfl⟩ g1 wS rfl g7, of_w 8 (by decide) ⟨rfl, rfl⟩ g1 wS rfl g8, of_w 9 (by decide) ⟨rfl, rfl⟩ g1 wS rfl g9, of_w 10 (by decide) ⟨rfl, rfl⟩ g1 wS rfl g10⟩, ⟨fun n hn => by
          rw [(atV n hn).2]
          congr 1
          refine bN_ext (fun j hj => ?_)
          show _ = wbs cm n j
          unfold wbs
          have : n ∈ ovL cm := by
            cases cm with
            | none => exact absurd hn List.not_mem_nil
            | some s => exact hn
          rw [if_pos this], fun p e => absurd e (by simp)⟩, ⟨(oV 4 (by decide)).trans g12.1, fun _ => v5, v6, (oV 7 (by decide)).trans g12.2.2.2.1, (oV 8 (by decide)).trans g12.2.2.2.2⟩, fi_w g1 wS rfl oV rfl g13⟩
      have hsum : sumL (fun n => (sgR sl n).length) (cmV cm).1 ≤ 10 * (cmV cm).1.length := sumL_bd (fun n hn => by rw [sgR_len]; exact (g2.2.2 n (hcm n hn)).2.1)
      refine ⟨610, 2200, by omega, by omega, did_open a1.1.1 (g_open a1 a2 (by omega) (by omega) (by omega) (fun T ρ' eT gT => ⟨by omega, ?_⟩))⟩
      have hR : R6 (k + 1) T dp x ar (cd + 610) (dd + 2200) := R6_I (BL := []) (BL' := []) hL hC hT fV eT ⟨so, sd, gT⟩ ⟨hcm, a2.2.1, a2.2.2.1, a2.2.2.2.1, a2.2.2.2.2⟩ iV ⟨⟨gC, p2, p3, p4, p5⟩, ⟨p6.1, fun d hd => absurd hd List.not_mem_nil⟩, fun s c e => absurd e (by simp), ⟨p8, p8b, p8c, by omega⟩, fun z => absurd z (by decide), fun j e => absurd e (by simp), p11, p12, p13, p14, by omega⟩ hF (Nat.le_refl _) (fun _ _ => rfl) (by omega) (by omega)
      have e3T : cX T (ar 15) 14 (nI 3) ∧ cI T (ar 15) 3 = nI (cmV cm).1.length := by
        obtain ⟨gR, -, eI, -⟩ := I6_rows iV.1 hT eT.1 (by decide)
        exact ⟨lR_X gR (i := 15) (by decide) (by decide), by rw [eI 15 (by decide)]; exact m3⟩
      rw [nI_x 3 (by decide), e3T.2]
      exact ⟨e3T.1, fun c => absurd rfl c, fun _ => ⟨by omega, hQ 610 2200 T bd.1 bd.2 hR⟩⟩
    rw [nI_x 0 (by decide), c2, g7.2.1.1]
    refine ⟨lR_X g2' (i := 7) (by decide) (by decide), ?_⟩
    cases cm with
    | none =>
      refine ⟨fun _ => ?_, fun c => absurd c (by decide)⟩
      unfold k_L_opens_55
      rw [nI_x 3 (by decide)]
      exact ⟨lR_X g2' (i := 15) (by decide) (by decide), fun S3 e3 => fin S3 e3⟩
    | some s =>
      refine ⟨fun c => absurd rfl c, fun _ => ⟨lR_X g2' (i := 7) (by decide) (by decide), ?_⟩⟩
      unfold k_L_opens_55
      rw [nI_x 3 (by decide), nI_x 1 (by decide), (g7.2.2 (show 0 < 1 by decide)).2.1]
      exact ⟨lR_X g2' (i := 15) (by decide) (by decide), fun S3 e3 => fin S3 e3⟩
  · subst e
    obtain ⟨⟨so, sd, a1⟩, a2, a3, a4, a5, a6⟩ := hC
    refine ⟨610, 2200, by omega, by omega, didX_open a1.1.1 (by omega) (x_open a1 (by omega) (by omega) ⟨by omega, fun c => absurd rfl c, fun _ => ⟨by omega, hQ 610 2200 S bd.1 bd.2 hk6⟩⟩)⟩
end LR6
