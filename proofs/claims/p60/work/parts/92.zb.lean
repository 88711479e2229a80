/-! the case of a step -/
section LZC
variable {S V T U : cS} {dp x k cd dd : Nat} {ar : Nat → Nat}
theorem q_merge1 {Q : Nat → Nat → Int32 → cS → Prop} (h : R6 k S dp x ar cd dd) (hk : k ≤ 250) (h27 : ¬ nI 27 ≤ cI S (ar 15) (nI 2).toNatClampNeg) (hQ : ∀ m1 m2 T, cd + m1 ≤ 500000 → dd + m2 ≤ 5000000 → R6 (k + 1) T dp x ar (cd + m1) (dd + m2) → Q m1 m2 (bI true) T) : ∃ m1 m2, cd + m1 ≤ 500000 ∧ dd + m2 ≤ 5000000 ∧ k_L_isMerged (Q m1 m2) dp m1 m2 x (ar 2) (ar 3) (ar 4) (ar 5) (ar 6) (ar 13) (ar 8) (ar 9) (ar 10) (ar 15) (nI 1) S := by
  have bd := R6_bd hk (a := 1) (b := 6) (by decide) (by decide) h
  have hk6 := R6_k (cd' := cd + 1) (dd' := dd + 6) (by omega) (by omega) h
  obtain ⟨ρ, ad, dn, made, sl, BL, ix, mg, cm, pr, sn, o1, o2, op, fi, w, cc, off, H, sk, tk, CL, u, R, hL, hC, hI, hT, hP, hF, hc1, hc2⟩ := id h
  obtain ⟨g1, g2, g3, g4, g5, g6, ⟨g7, g8, g9, g10⟩, g11, g12, g13⟩ := id hI
  obtain ⟨⟨p1, p2, p3, p4, p5⟩, p6, p7, ⟨p8, p8b, p8c, p8d⟩, p9, p10, p11, p12, p13, p14, p15⟩ := id hP
  have hm27 := g3.2.1.2
  rw [nI_x 2 (by decide), g3.2.1.1, nI_leI (by decide) (by omega)] at h27
  have e6 : cI S (ar 15) (nI 6).toNatClampNeg = bI off := by rw [nI_x 6 (by decide)]; exact g12.2.2.1
  have e9 : cI S (ar 15) (nI 9).toNatClampNeg = bI mg.isSome := by rw [nI_x 9 (by decide)]; exact g6.1
  have c15 := fun (q : Nat) (hq : q < 17) => lR_X g1 (i := 15) (by decide) (show q < lLn 15 from hq)
  by_cases hno : off = true ∨ mg = none
  · refine ⟨1, 6, bd.1, bd.2, ?_⟩
    have no : k_L_isMerged_203 (Q 1 6) dp 1 6 x (nI 1) 0 0 S := by
      unfold k_L_isMerged_203 k_L_isMerged_215
      refine ⟨fun c => absurd rfl c, fun _ => ?_⟩
      obtain ⟨⟨so, sd, a1⟩, a2, a3, a4, a5, a6⟩ := hC
      exact ⟨1, 6, by omega, by omega, didX_step a1.1.1 (by omega) (x_step a1 hno (by omega) (by omega) ⟨by omega, fun c => absurd rfl c, fun _ => ⟨by omega, hQ 1 6 S bd.1 bd.2 hk6⟩⟩)⟩
    unfold k_L_isMerged
    rw [e6, e9]
    refine ⟨fun _ => ⟨c15 6 (by decide), fun _ => no, fun c => ⟨c15 9 (by decide), w_Bn (fun e => ?_) (fun _ => no)⟩⟩, fun c => absurd c (by decide)⟩
    exfalso
    rcases hno with z | z
    · rw [z] at c; exact c rfl
    · rw [z] at e; exact absurd e (by decide)
  · cases off with
    | true => exact absurd (Or.inl rfl) hno
    | false =>
      cases mg with
      | none => exact absurd (Or.inr rfl) hno
      | some sc =>
        obtain ⟨s0, c0⟩ := sc
        obtain ⟨⟨p, m10, hp, hs0⟩, m11, m12, hl10, hc0, hy⟩ := g6.2 s0 c0 rfl
        obtain ⟨-, a2, -⟩ := id hC
        obtain ⟨mp, hmp⟩ : ∃ mp, mp = mtL (sgR sl) s0.2 s0.1 := ⟨_, rfl⟩
        rw [← hmp] at m12 hl10 hc0 hy
        have vS := p2 s0 c0 rfl
        have sM : vwM made s0 := a2.2.1 s0 rfl
        have hlx := g5.1.2
        have hl3 : s0.1.length = 3 := by rw [hs0, List.length_take, List.length_drop]; omega
        have q3 : ∀ a n, s0.1[a]? = some n → ix.1[p + a]? = some n := fun a n ha => by
          have := get_lt ha
          rw [hs0, List.getElem?_take_of_lt (by omega), List.getElem?_drop] at ha
          exact ha
        have eL : dcA (sgR sl) mp = s0.1.flatMap (fun n => selA (s0.2 n) 0 (sgR sl n)) := by rw [hmp]; exact dcA_sel s0.1
        have dl : (dcA (sgR sl) mp).length = mp.length := dcA_len
        have b7' : cd + 610 * (BL.length + c0) ≤ 10000 + 1600 * k := hc1
        have b8' : dd + 7000 * (BL.length + c0) ≤ 100000 + 16000 * k := hc2
        have p15' : smN (fun n => (sgR sl n).length) made + (BL.map dcR).length + c0 ≤ k := p15
        obtain ⟨mc, hmc⟩ : ∃ mc, mc = (if c0 < mp.length then 10 else 610 * c0 + 310) := ⟨_, rfl⟩
        obtain ⟨ms, hms⟩ : ∃ ms, ms = (if c0 < mp.length then 20 else 7000 * c0 + 6010) := ⟨_, rfl⟩
        have mcA : c0 < mp.length → mc = 10 ∧ ms = 20 := fun z => by rw [hmc, hms, if_pos z, if_pos z]; exact ⟨rfl, rfl⟩
        have mcB : c0 = mp.length → mc = 610 * c0 + 310 ∧ ms = 7000 * c0 + 6010 := fun z => by rw [hmc, hms, if_neg (by omega), if_neg (by omega)]; exact ⟨rfl, rfl⟩
        have mcC : 10 ≤ mc ∧ 20 ≤ ms := by
          rcases Nat.lt_or_ge c0 mp.length with z | z
          · have := mcA z; omega
          · have := mcB (by omega); omega
        have bq : cd + mc + 610 * (BL.length + (if c0 < mp.length then c0 + 1 else 0)) ≤ 10000 + 1600 * (k + 1) ∧ dd + ms + 7000 * (BL.length + (if c0 < mp.length then c0 + 1 else 0)) ≤ 100000 + 16000 * (k + 1) := by
          rcases Nat.lt_or_ge c0 mp.length with z | z
          · have := mcA z
            rw [if_pos z]; omega
          · have := mcB (by omega)
            rw [if_neg (by omega)]; omega
        have bd2 : cd + mc ≤ 500000 ∧ dd + ms ≤ 5000000 := by omega
        refine ⟨mc, ms, bd2.1, bd2.2, ?_⟩
        unfold k_L_isMerged
        rw [e6, e9]
        refine ⟨fun _ => ⟨c15 6 (by decide), fun c => absurd c (by decide), fun _ => ⟨c15 9 (by decide), fun _ => ⟨fun _ => ⟨by omega, ?_⟩, fun c => absurd c (by decide)⟩, fun c => absurd c (by show ¬ bI true = 0; decide)⟩⟩, fun c => absurd c (by decide)⟩
        refine q_L_writes (g1.1 15 (by decide)) (g1.1 8 (by decide)) (g1.1 9 (by decide)) (g1.1 10 (by decide)) (lR_ne g1 (by decide) (by decide) (by decide)) (lR_ne g1 (by decide) (by decide) (by decide)) (lR_ne g1 (by decide) (by decide) (by decide)) p10 (lWn_0 g12.1 (g12.2.1 rfl)) (fun W hcc hW => ?_) (fun V hcc hV => ?_)
        · have hne : cc ≠ some 0 := fun e => absurd (hcc 0 e) (by decide)
          obtain ⟨wW0, oW, w4, w5, -⟩ := hW
          have wW : lwT S W ([15].map ar) := wW0
          have gW := lR_w wW g1
          have cW := fun (q : Nat) (hq : q < 17) => lR_X gW (i := 15) (by decide) (show q < lLn 15 from hq)
          have ccm : cc.map (fun k => k - (0 + 1)) = cc.map (fun k => k - 1) := rfl
          refine ⟨fun _ => ?_, fun c => absurd c (by decide)⟩
          rw [nI_x 11 (by decide), nI_x 12 (by decide), nI_x 10 (by decide), nI_x 2 (by decide), oW 11 (by decide), oW 12 (by decide), m11, m12]
          refine ⟨cW 11 (by decide), cW 12 (by decide), pk_le mp.length c0 (fun c => ?_) (fun c => ?_)⟩
          · -- the merge ends
            obtain rfl : c0 = mp.length := by omega
            have mB := mcB rfl
            rw [if_neg (Nat.lt_irrefl _)] at bq
            have gsW : lSeg W (ar 0) (ar 2) (ar 3) dn made sl := sg_w g1 wW rfl g2
            refine ⟨cW 10 (by decide), ?_⟩
            rw [oW 10 (by decide), m10]
            rintro _ rfl
            refine ⟨cW 2 (by decide), ?_⟩
            rw [oW 2 (by decide), g3.2.1.1]
            rintro _ rfl
            have fin : ∀ (bb : Nat) (mid : List Nat), ((bb = 3 ∧ mid = []) ∨ (bb = 2 ∧ mid = [made])) → (mid = [] ↔ mp = []) → k_L_isMerged_363 (Q mc ms) dp mc ms x (ar 2) (ar 3) (ar 4) (ar 5) (ar 6) (ar 13) (ar 15) (nI p) (nI made) (nI bb) 0 0 W := fun bb mid hmid hme => by
              refine q_mg363 (lv := ix.2) (mp := mp) gW gsW (by omega) hl10 ((oW 12 (by decide)).trans m12) (fun i z hz => ?_) (by omega) (fun T1 hT1 => ?_)
              · have hz' := hz
                rw [hmp] at hz'
                obtain ⟨a, b1, b2, b3, b4, b5⟩ := mt_a hz'
                rw [lwI g1 wW 13 rfl, lwI g1 wW 4 rfl]
                exact ⟨hy i z hz, sM z.1 b4, g5.2.2 z.1 (mg_ids hs0 b4), a, b1⟩
              obtain ⟨wT, r2, ⟨r3, t3⟩, ⟨y, hy1, hy2, hy3⟩, ⟨r4, t4⟩, r5, t5⟩ := hT1
              have gT1 := lR_w wT gW
              refine q_mg488 (ids := ix.1) (mid := mid) gT1 (by omega) hp (by omega) hmid (by rw [lwI gW wT 15 rfl, oW 3 (by decide)]; exact g5.1.1) (by rw [lwI gW wT 15 rfl, oW 2 (by decide)]; exact g3.2.1.1) (fun i a ha => by rw [lwI gW wT 6 rfl, lwI g1 wW 6 rfl]; exact (g5.2.1 i a ha).1) (fun T2 wT2 o2' n2 n3 x2 => ?_)
              unfold k_L_isMerged_546
              rw [nI_x 9 (by decide)]
              have gT2 := lR_w wT2 gT1
              refine ⟨lR_X gT2 (i := 15) (by decide) (by decide), fun V eV => ?_⟩
              have wV2 : lwT T2 V ([15].map ar) := eV ▸ lw_SI (by simp)
              have wl : ∀ {A B : cS} {L : List Nat}, lwT A B (L.map ar) → (∀ q, q ∈ L → q ∈ [2, 3, 4, 5, 6, 15]) → lwT A B ([2, 3, 4, 5, 6, 15].map ar) := fun hh hs => lw_wk hh (fun a ha => by
                obtain ⟨q, hq, e⟩ := List.mem_map.mp ha
                exact e ▸ List.mem_map.mpr ⟨q, hs q hq, rfl⟩)
              have wV : lwT S V ([2, 3, 4, 5, 6, 15].map ar) := lw_tr (wl wW (by simp)) (lw_tr (wl wT (by simp)) (lw_tr (wl wT2 (by simp)) (wl wV2 (by simp)) (fun _ z => z)) (fun _ z => z)) (fun _ z => z)
              have j2 : cJ V (ar 2) = cJ T1 (ar 2) := by rw [lwJ gT2 wV2 2 rfl, lwJ gT1 wT2 2 rfl]
              have i3 : cI V (ar 3) = cI T1 (ar 3) := by rw [lwI gT2 wV2 3 rfl, lwI gT1 wT2 3 rfl]
              have i4 : cI V (ar 4) = cI T1 (ar 4) := by rw [lwI gT2 wV2 4 rfl, lwI gT1 wT2 4 rfl]
              have i5 : cI V (ar 5) = cI T1 (ar 5) := by rw [lwI gT2 wV2 5 rfl, lwI gT1 wT2 5 rfl]
              have i15 : ∀ q, q ≠ 9 → q ≠ 2 → q ≠ 3 → cI V (ar 15) q = cI W (ar 15) q := fun q h9 h2 h3 => by
                rw [eV, cSI_o h9, o2' q (by simp; exact ⟨h2, h3⟩), lwI gW wT 15 rfl]
              have hO : mcO S V ar dn made w cc sl ix.2 mp (ix.1.take p ++ (mid ++ ix.1.drop (p + 3))) (made + mid.length) := by
                refine ⟨wV, fun q hq => ?_, ⟨?_, ?_, ?_, ?_, ?_⟩, fun i a ha => ?_, fun q hq => ?_, ⟨fun q hq => ?_, by rw [i3]; exact t3⟩, ⟨y, hy1, by rw [j2]; exact hy2, fun j z a hj hz ha => by have := hy3 j z a hj hz ha; rw [lwJ g1 wW 0 rfl] at this; exact this⟩, ⟨fun q hq => ?_, by rw [i4]; exact t4⟩, fun q hq => ?_, by rw [i5]; exact t5⟩
                · have hq' := hq
                  simp at hq'
                  rw [i15 q hq'.2.2.2.2 hq'.1 hq'.2.1, oW q (by simp; exact ⟨hq'.2.2.1, hq'.2.2.2.1⟩)]
                · rw [eV, cSI_o (by decide)]; exact n2
                · rw [eV, cSI_o (by decide)]; exact n3
                · rw [i15 4 (by decide) (by decide) (by decide)]; exact w4
                · rw [i15 5 (by decide) (by decide) (by decide)]; exact w5
                · rw [eV, cSI_s]
                · rw [lwI gT2 wV2 6 rfl]; exact x2 i a ha
                · rw [j2, r2 q hq, lwJ g1 wW 2 rfl]
                · rw [i3, r3 q hq, lwI g1 wW 3 rfl]
                · rw [i4, r4 q hq, lwI g1 wW 4 rfl]
                · rw [i5, r5 q hq, lwI g1 wW 5 rfl]
              have fV := fr_lw (ρ := ρ) wV (tg_map hT rfl)
              obtain ⟨⟨so, sd, a1⟩, a2V, a3, a4, a5, a6⟩ := C6_fr fV (by decide) hC
              obtain ⟨fd, hfd⟩ := gFn_Fd a6
              refine ⟨mc, ms, by omega, by omega, did_step a1.1.1 (g_stepB (L := dcA (sgR sl) mp) a1 a2V hfd p10 (by omega) p1.1 (by omega) (fun j n hj => q3 j n hj) hl3 hp eL rfl (by rw [hmp]; exact kd_of vS) (by omega) (by omega) mcC.1 mcC.2 (fun _ => by rw [mB.1]; exact Nat.le_refl _) (fun _ => by rw [mB.2]; exact Nat.le_refl _) (fun T _ hlt => absurd hlt (by omega)) (fun T ρ' _ hcL hLn eT gT => ⟨by omega, fun c => absurd rfl c, fun _ => ⟨by omega, ?_⟩⟩) (fun T ρ' A ds _ hcL hLn eT gT => ⟨by omega, fun c => absurd rfl c, fun _ => ⟨by omega, ?_⟩⟩) (fun T ρ' h0 => absurd h0 hne))⟩
              · have hm0 : mp = [] := List.eq_nil_of_length_eq_zero (by rw [← dl, hLn]; rfl)
                have hmid0 := hme.mpr hm0
                subst hmid0
                rw [hm0] at hO
                refine hQ mc ms T bd2.1 bd2.2 ?_
                refine R6_I hL hC hT fV eT ⟨so, sd, gT⟩ (ixM_up a2V (Nat.le_refl _) (fun n hn => a2V.1 n (cut_sub.subset hn))) (I6_cut0 hI a2 hO) ⟨⟨vG_sub p1 cut_sub, fun s c e => absurd e (by simp), p3, p4, p5⟩, ⟨p6.1, fun d hd n j d' hn => p6.2 d hd n j d' (cut_sub.subset hn)⟩, fun s c e => absurd e (by simp), ⟨p8, p8b, p8c, by omega⟩, fun w => absurd w (by decide), cc_map p10, p11, p12, p13, p14, by show _ + _ + 0 ≤ k + 1; omega⟩ hF (Nat.le_refl _) (fun _ _ => rfl) bq.1 bq.2
              · have hm0 : mp ≠ [] := fun e => hLn (by rw [e]; rfl)
                have hmid1 : mid = [made] := by
                  rcases hmid with ⟨-, e⟩ | ⟨-, e⟩
                  · exact absurd (hme.mp e) hm0
                  · exact e
                subst hmid1
                refine hQ mc ms T bd2.1 bd2.2 ?_
                have hO' : mcO S V ar dn made w cc sl ix.2 (mtL (sgR sl) s0.2 s0.1) (ix.1.take p ++ made :: ix.1.drop (p + 3)) (made + 1) := hmp ▸ hO
                have gT2 : gIx T ρ' dp x (upR so made A) (upR sd made ds) (sgR (upR sl made (nlM sl (mtL (sgR sl) s0.2 s0.1)))) (made + 1) (BL.map dcR) (ix.1.take p ++ made :: ix.1.drop (p + 3), lvM made (mtL (sgR sl) s0.2 s0.1) ix.2) none cm pr sn op fi (w + 1) (cc.map (fun k => k - 1)) false := by
                  rw [sgR_up, nlM_dc, ← hmp]
                  refine gIx_lv (fun n hn j hj => ?_) gT
                  show lvM made mp ix.2 n j = if n = made then _ else ix.2 n j
                  by_cases e : n = made
                  · subst e
                    rw [if_pos rfl]
                    have hj' : j < (upR (sgR sl) n (dcA (sgR sl) mp) n).length := hj
                    rw [upR_s, hmp] at hj'
                    have hmv := mv_lv (made := n) (lv := ix.2) vS hj'
                    rw [← hmp] at hmv
                    rw [hmv, dcA_sel]
                  · rw [if_neg e]
                    unfold lvM
                    rw [if_neg e]
                have hPc := pI_cut (cc' := cc.map (fun k => k - 1)) hP a2 hp q3 hl3 (by rw [hmp]) (by omega) (cc_map p10)
                rw [← nlM_dc, ← sgR_up] at hPc
                refine R6_I hL hC hT fV eT ⟨_, _, gT2⟩ (ixM_up a2V (by omega) (fun n hn => ?_)) (I6_cut1 hI a2 p1.1 hp (by omega) (by rw [← hmp]; exact hl10) hO') hPc hF (by omega) (fun n hn => upR_n (by omega)) bq.1 bq.2
                rcases cut_mem (l := ix.1) (p := p) (made := made) (n := n) (by omega) hn with e | ⟨a, -, ha⟩
                · omega
                · have := a2.1 n (List.mem_of_getElem? ha); omega
            refine ⟨cW 12 (by decide), w_nz mp.length (fun h0 => ?_) (fun h0 => ?_)⟩
            · exact fin 2 [made] (Or.inr ⟨rfl, rfl⟩) ⟨fun e => absurd e (by simp), fun e => by rw [e] at h0; exact absurd h0 (Nat.lt_irrefl _)⟩
            · exact fin 3 [] (Or.inl ⟨rfl, rfl⟩) ⟨fun _ => List.eq_nil_of_length_eq_zero h0, fun _ => rfl⟩
          · -- a copy more
            have mA := mcA c
            rw [if_pos c] at bq
            rw [nI_add]
            refine ⟨cW 11 (by decide), cW 11 (by decide), fun V eV => ?_⟩
            have wV : lwT S V ([15].map ar) := lw_tr wW (eV ▸ lw_SI (by simp)) (fun _ z => z)
            have oV : rO S V (ar 15) [4, 5, 11] := fun q hq => by
              simp at hq
              rw [eV, cSI_o hq.2.2, oW q (by simp; exact ⟨hq.1, hq.2.1⟩)]
            have v11 : cI V (ar 15) 11 = nI (c0 + 1) := by rw [eV, cSI_s]
            have v4 : cI V (ar 15) 4 = nI (w + 1) := by rw [eV, cSI_o (by decide)]; exact w4
            have v5 : cI V (ar 15) 5 = cIn (cc.map (fun k => k - 1)) := by rw [eV, cSI_o (by decide)]; exact w5
            have fV := fr_lw (ρ := ρ) wV (tg_map hT rfl)
            obtain ⟨⟨so, sd, a1⟩, a2V, a3, a4, a5, a6⟩ := C6_fr fV (by decide) hC
            obtain ⟨fd, hfd⟩ := gFn_Fd a6
            have iV : I6 V ar dn made sl BL ix (some (s0, c0 + 1)) cm pr o1 o2 op fi (w + 1) (cc.map (fun k => k - 1)) false H sk tk R := ⟨lR_w wV g1, sg_w g1 wV rfl g2, sz_w oV rfl g3, bf_w g1 wV rfl oV rfl g4, ix_w g1 wV rfl oV rfl g5, ⟨(oV 9 (by decide)).trans g6.1, fun s q e => by
                obtain ⟨rfl, rfl⟩ := Prod.mk.inj (Option.some.inj e)
                rw [← hmp]
                exact ⟨⟨p, (oV 10 (by decide)).trans m10, hp, hs0⟩, v11, (oV 12 (by decide)).trans m12, hl10, c, fun i z hz => by rw [lwI g1 wV 13 rfl]; exact hy i z hz⟩⟩, ⟨of_w 7 (by decide) ⟨rfl, rfl⟩ g1 wV rfl g7, of_w 8 (by decide) ⟨rfl, rfl⟩ g1 wV rfl g8, of_w 9 (by decide) ⟨rfl, rfl⟩ g1 wV rfl g9, of_w 10 (by decide) ⟨rfl, rfl⟩ g1 wV rfl g10⟩, wr_w g1 wV rfl g11, ⟨v4, fun _ => v5, (oV 6 (by decide)).trans g12.2.2.1, (oV 7 (by decide)).trans g12.2.2.2.1, (oV 8 (by decide)).trans g12.2.2.2.2⟩, fi_w g1 wV rfl oV rfl g13⟩
            refine ⟨mc, ms, by omega, by omega, did_step a1.1.1 (g_stepB (L := dcA (sgR sl) mp) a1 a2V hfd p10 (by omega) p1.1 (by omega) (fun j n hj => q3 j n hj) hl3 hp eL rfl (by rw [hmp]; exact kd_of vS) (by omega) (by omega) mcC.1 mcC.2 (fun z => absurd z (by omega)) (fun z => absurd z (by omega)) (fun T _ hlt eT gT => ⟨by omega, ?_⟩) (fun T ρ' _ hcL => absurd hcL (by omega)) (fun T ρ' A ds _ hcL => absurd hcL (by omega)) (fun T ρ' h0 => absurd h0 hne))⟩
            have hR : R6 (k + 1) T dp x ar (cd + mc) (dd + ms) := R6_I hL hC hT fV eT ⟨so, sd, gT⟩ ⟨a2.1, a2.2.1, a2.2.2.1, a2.2.2.2.1, a2.2.2.2.2⟩ iV ⟨⟨p1, fun s c e => by obtain ⟨rfl, -⟩ := Prod.mk.inj (Option.some.inj e); exact vS, p3, p4, p5⟩, p6, fun s q e => by
                obtain ⟨rfl, rfl⟩ := Prod.mk.inj (Option.some.inj e)
                exact ⟨p, hp, hl3, q3, by rw [← hmp]; omega, by omega⟩, ⟨p8, p8b, p8c, by omega⟩, fun w => absurd w (by decide), cc_map p10, p11, p12, p13, p14, by show _ + _ + (c0 + 1) ≤ k + 1; omega⟩ hF (Nat.le_refl _) (fun _ _ => rfl) bq.1 bq.2
            obtain ⟨gR, -, eI, -⟩ := I6_rows iV.1 hT eT.1 (by decide)
            rw [eI 15 (by decide), v11, oV 12 (by decide), m12, pk_sub (by omega), dl]
            exact ⟨lR_X gR (i := 15) (by decide) (by decide), lR_X gR (i := 15) (by decide) (by decide), fun c => absurd rfl c, fun _ => ⟨by omega, hQ mc ms T bd2.1 bd2.2 hR⟩⟩
        · -- the machine goes down
          have wV : lwT S V ([15, 8, 9, 10].map ar) := hV.1
          have fV := fr_lw (ρ := ρ) wV (tg_map hT rfl)
          obtain ⟨⟨so, sd, a1⟩, a2V, a3, a4, a5, a6⟩ := C6_fr fV (by decide) hC
          obtain ⟨fd, hfd⟩ := gFn_Fd a6
          refine ⟨fun c => absurd rfl c, fun _ => ⟨mc, ms, by omega, by omega, did_step a1.1.1 (g_stepB (L := dcA (sgR sl) mp) a1 a2V hfd p10 (by omega) p1.1 (by omega) (fun j n hj => q3 j n hj) hl3 hp eL rfl (by rw [hmp]; exact kd_of vS) (by omega) (by omega) mcC.1 mcC.2 (fun z => by rw [(mcB (by omega)).1]; exact Nat.le_refl _) (fun z => by rw [(mcB (by omega)).2]; exact Nat.le_refl _) (fun T hne => absurd hcc hne) (fun T ρ' hne => absurd hcc hne) (fun T ρ' A ds hne => absurd hcc hne) (fun T ρ' _ eD gT => ⟨by omega, fun c => absurd rfl c, fun _ => ⟨by omega, hQ mc ms T bd2.1 bd2.2 ?_⟩⟩))⟩⟩
          have := bq
          exact R6_D (sl' := sl) (lv' := ix.2) (w' := w + 0) hL hC hT fV hfd eD ⟨so, sd, gT⟩ a2V.2.2.1 (I6_D hI hV) (pI_D hP) hF (by omega) (by omega)
end LZC
