section LZI
variable {S V T W U : cS} {dp x k cd dd : Nat} {ar : Nat → Nat}
theorem q_210 {Q : Int32 → cS → Prop} {mc ms cd dd a b c d : Nat} (h : ∃ m1 m2 : Nat, cd + m1 ≤ mc ∧ dd + m2 ≤ ms ∧ kw_L_did (fun r T => (¬ r = -2 → (cd + m1 ≤ mc ∧ dd + m2 ≤ ms) ∧ Q (bI false) T) ∧ (r = -2 → (cd + m1 ≤ mc ∧ dd + m2 ≤ ms) ∧ Q (bI true) T)) dp m1 m2 x (nI 4) V) : k_L_isCommitted_210 Q dp mc ms x a b c d cd dd V := by
  unfold k_L_isCommitted_210 k_L_isCommitted_219 k_L_isCommitted_244
  exact ⟨fun _ => h, fun c => absurd rfl c⟩
theorem q_189 {Q : Int32 → cS → Prop} {mc ms cd dd a b c d e f : Nat} (h : ∃ m1 m2 : Nat, cd + m1 ≤ mc ∧ dd + m2 ≤ ms ∧ kw_L_did (fun r T => (¬ r = -2 → (cd + m1 ≤ mc ∧ dd + m2 ≤ ms) ∧ Q (bI false) T) ∧ (r = -2 → (cd + m1 ≤ mc ∧ dd + m2 ≤ ms) ∧ Q (bI true) T)) dp m1 m2 x (nI 4) V) : k_L_isCommitted_189 Q dp mc ms x a b c d e f (-2) cd dd V := by
  unfold k_L_isCommitted_189
  exact ⟨fun _ => q_210 h, fun c => absurd rfl c⟩
theorem flS_n {sg : Nat → List Dc} {made w : Nat} {ix : Vw} {cc : Option Nat} {B : List Dc} (h : B ≠ []) : flS made sg B ix w cc = (made + 1, upR sg made B, (ix.1 ++ [made], lvF made ix.2), w + (B.length + 1), cc.map (fun k => k - (B.length + 1))) := by
  cases B with
  | nil => exact absurd rfl h
  | cons d B => rfl
theorem q_comm0 {Q : Nat → Nat → Int32 → cS → Prop} (h : R6 k S dp x ar cd dd) (hk : k ≤ 250) (h27 : ¬ nI 27 ≤ cI S (ar 15) (nI 2).toNatClampNeg) (hQ : ∀ m1 m2 T, cd + m1 ≤ 500000 → dd + m2 ≤ 5000000 → R6 (k + 1) T dp x ar (cd + m1) (dd + m2) → Q m1 m2 (bI true) T) : ∃ m1 m2, cd + m1 ≤ 500000 ∧ dd + m2 ≤ 5000000 ∧ k_L_isCommitted (Q m1 m2) dp m1 m2 x (ar 0) (ar 1) (ar 2) (ar 3) (ar 4) (ar 5) (ar 6) (ar 7) (ar 8) (ar 9) (ar 10) (ar 15) (ar 14) (nI 0) S := by
  have bd := R6_bd hk (a := 3) (b := 70) (by decide) (by decide) h
  have hk6 := R6_k (cd' := cd + 3) (dd' := dd + 70) (by omega) (by omega) h
  obtain ⟨ρ, ad, dn, made, sl, BL, ix, mg, cm, pr, sn, o1, o2, op, fi, w, cc, off, H, sk, tk, CL, u, R, hL, hC, hI, hT, hP, hF, hc1, hc2⟩ := id h
  obtain ⟨g1, g2, g3, g4, g5, g6, ⟨g7, g8, g9, g10⟩, g11, g12, g13⟩ := id hI
  obtain ⟨⟨p1, p2, p3, p4, p5⟩, p6, p7, ⟨p8, p8b, p8c, p8d⟩, p9, p10, p11, p12, p13, p14, p15⟩ := id hP
  have hm27 := g3.2.1.2
  have hb10 := g4.2.1
  rw [nI_x 2 (by decide), g3.2.1.1, nI_leI (by decide) (by omega)] at h27
  have e6 : cI S (ar 15) (nI 6).toNatClampNeg = bI off := by rw [nI_x 6 (by decide)]; exact g12.2.2.1
  have e0 : cI S (ar 8) (nI 0).toNatClampNeg = nI (ofO pr) := by rw [nI_x 0 (by decide)]; exact g8.2.1.1
  have c15 := lR_X g1 (i := 15) (by decide) (show 6 < 17 by decide)
  by_cases hno : off = true ∨ pr ≠ none
  · refine ⟨3, 70, bd.1, bd.2, ?_⟩
    have no : k_L_isCommitted_22 (Q 3 70) dp 3 70 x 0 0 S := by
      unfold k_L_isCommitted_22
      obtain ⟨⟨so, sd, a1⟩, a2, a3, a4, a5, a6⟩ := hC
      exact ⟨3, 70, by omega, by omega, didX_prepare a1.1.1 (by omega) (x_prepare a1 (hno.imp (fun z => z) Or.inl) (by omega) (by omega) (by omega) ⟨by omega, fun c => absurd rfl c, fun _ => ⟨by omega, hQ 3 70 S bd.1 bd.2 hk6⟩⟩)⟩
    unfold k_L_isCommitted
    rw [e6, e0]
    refine ⟨fun c => absurd rfl c, fun _ => ⟨c15, fun _ => no, fun c => ⟨lR_X g1 (i := 8) (by decide) (by decide), fun c2 => ?_, fun _ => no⟩⟩⟩
    exfalso
    rcases hno with z | z
    · rw [z] at c; exact c rfl
    · cases pr with
      | none => exact z rfl
      | some s => exact c2 rfl
  · cases off with
    | true => exact absurd (Or.inl rfl) hno
    | false =>
      cases pr with
      | some s => exact absurd (Or.inr (by simp)) hno
      | none =>
        obtain ⟨mc, hmc⟩ : ∃ mc, mc = 610 * BL.length + 660 := ⟨_, rfl⟩
        obtain ⟨ms, hms⟩ : ∃ ms, ms = 7000 * BL.length + 3500 := ⟨_, rfl⟩
        have bd2 : cd + mc ≤ 500000 ∧ dd + ms ≤ 5000000 := by omega
        have a2 := hC.2.1
        have hlx := g5.1.2
        have sm : sumL (fun n => (sgR sl n).length) ix.1 ≤ 10 * ix.1.length := sumL_bd (fun n hn => by rw [sgR_len]; exact (g2.2.2 n (a2.1 n hn)).2.1)
        have hml : (BL.map dcR).length = BL.length := List.length_map _
        refine ⟨mc, ms, bd2.1, bd2.2, ?_⟩
        -- after the flush
        have post : ∀ (U : cS) (A : List Nat) (sl1 : Nat → List Nat) (made1 dn1 : Nat) (ix1 : Vw) (w1 : Nat) (cc1 : Option Nat) (r : Int32), lwT S U (A.map ar) → A.all (fun i => decide (i < 16)) = true → I6 U ar dn1 made1 sl1 [] ix1 mg cm none o1 o2 op fi w1 cc1 false H sk tk R → flS made (sgR sl) (BL.map dcR) ix w cc = (made1, sgR sl1, ix1, w1, cc1) → (∀ j, cc = some j → flC (BL.map dcR) ≤ j) → made ≤ made1 → (∀ n, n < made → sl1 n = sl n) → ¬ r ≤ -2 → k_L_isCommitted_65L (Q mc ms) dp mc ms x (ar 4) (ar 5) (ar 6) (ar 8) (ar 9) (ar 10) (ar 15) (ar 14) r (nI 0) 0 0 U := fun U A sl1 made1 dn1 ix1 w1 cc1 r wU hA iU e hfl hmm hsl hr => by
          obtain ⟨i1, i2, i3, i4, i5, i6, ⟨i7, i8, i9, i10⟩, i11, i12, i13⟩ := id iU
          obtain ⟨k1, k2⟩ := flS_cc e
          have hr2 : r ≠ -2 := fun z => hr (by rw [z]; decide)
          have hM1 : vwM made1 ix1 := fun n hn => by
            obtain ⟨i, hi⟩ := List.mem_iff_getElem?.mp hn
            exact (i5.2.1 i n hi).2
          obtain ⟨qM, -⟩ := pI_prep (q := 0) hP a2 e (Or.inl (by omega))
          have vI : ix1.1.Nodup := (pI_prep (q := 0) hP a2 e (Or.inl (by omega))).2.1.1.1
          have mm27 := i3.2.1.2
          have hcc1 : ∀ j, cc1 = some j → j ≤ 1000 := by rw [k1]; exact cc_map p10
          have hDe : chN (sgR sl1) ix1 cm = sumL (cmF (fun n => (sl1 n).length) ix1.2 (wbs cm)) ix1.1 := by rw [chN_dfN, cm_df]
          obtain ⟨D, hD⟩ : ∃ D, D = sumL (cmF (fun n => (sl1 n).length) ix1.2 (wbs cm)) ix1.1 := ⟨_, rfl⟩
          rw [← hD] at hDe
          refine q_comm65 i1 (fun W wW b14 => ?_)
          have gW := lR_w wW i1
          -- down while segments are written
          have down : ∀ V d, cc1 = some d → d ≤ D → dwV W V ar (w1 + d) → ∃ m1 m2 : Nat, 0 + m1 ≤ mc ∧ 0 + m2 ≤ ms ∧ kw_L_did (fun r T => (¬ r = -2 → (0 + m1 ≤ mc ∧ 0 + m2 ≤ ms) ∧ Q mc ms (bI false) T) ∧ (r = -2 → (0 + m1 ≤ mc ∧ 0 + m2 ≤ ms) ∧ Q mc ms (bI true) T)) dp m1 m2 x (nI 4) V := fun V d hcd hdD hV => by
            obtain ⟨wV, oV, hm, q8, q9, q10⟩ := hV
            have gV := lR_w wV gW
            have wUV : lwT U V ([5, 8, 9, 10, 14, 15].map ar) := lw_tr (wl6 wW rfl) (wl6 wV rfl) (fun _ z => z)
            have oUV : rO U V (ar 15) [1, 3, 4, 5, 6, 9, 13, 14, 15, 16] := fun q hq => by rw [oV q hq, lwI i1 wW 15 rfl]
            have iV : I6 V ar dn1 made1 sl1 [] ([], ix1.2) none cm none none none op fi (w1 + d) none true [] 0 0 [] := I6_Dp i1 i2 i3 i7 i12.2.2.2 gV ⟨lwJ i1 wUV 0 rfl, lwJ i1 wUV 2 rfl⟩ ⟨lwI i1 wUV 3 rfl, lwI i1 wUV 7 rfl⟩ oUV hm q8 q9 q10
            have fV : fr S V ρ ρ [90] := fr_tr (fr_lw wU (tg_map hT hA)) (fr_lw wUV (tg_map hT rfl)) (fun _ _ z => z)
            obtain ⟨⟨so, sd, a1⟩, a2V, a3, a4, a5, a6⟩ := C6_fr fV (by decide) hC
            obtain ⟨fd, hfd⟩ := gFn_Fd a6
            have hcd2 : ∃ j, cc = some j ∧ j = flC (BL.map dcR) + d := by
              rw [k1] at hcd
              cases cc with
              | none => exact absurd hcd (by simp)
              | some j =>
                have h1 := hfl j rfl
                have h2 : j - flC (BL.map dcR) = d := Option.some.inj hcd
                exact ⟨j, rfl, by omega⟩
            obtain ⟨j0, hj0, hj1⟩ := hcd2
            refine ⟨mc, ms, by omega, by omega, did_prepare a1.1.1 (g_prepare a1 (Or.inl (by omega)) (g_prep41 a1 a2V hfd p10 (by omega) (by omega) (by omega) (by omega) (fun T ρ' so' sd' made' sg' ix' w' cc' e' hk1 => ?_) (fun T ρ' j hB hj hcj => ?_) (fun T ρ' so' sd' made' sg' ix' w' cc' j e' hj hcj eD gT => ?_)))⟩
            · exfalso
              obtain ⟨rfl, rfl, rfl, rfl, rfl⟩ := pr5 (e.symm.trans e')
              have h1 : flC (BL.map dcR) + chN (sgR sl1) ix1 cm + 1 ≤ j0 := by
                have h := hk1 j0 hj0
                cases BL <;> exact h
              rw [hDe] at h1
              omega
            · exfalso
              have h1 := flC_n hB
              have h2 : j0 = j := Option.some.inj (hj0.symm.trans hcj)
              omega
            · obtain ⟨rfl, rfl, rfl, rfl, rfl⟩ := pr5 (e.symm.trans e')
              replace hcj : cc = some (flC (BL.map dcR) + j) := by
                cases BL <;> exact hcj
              have h2 : j0 = flC (BL.map dcR) + j := Option.some.inj (hj0.symm.trans hcj)
              obtain rfl : j = d := by omega
              refine ⟨by omega, fun c => absurd rfl c, fun _ => ⟨by omega, hQ mc ms T bd2.1 bd2.2 ?_⟩⟩
              have hPd := pI_D (lv' := ix1.2) (show pI k WL6 l6 ad (sgR sl1) made1 (([] : List Nat).map dcR) ix1 mg cm (some ix1) sn (slO o1 o2) op (cc1.map (fun k => k - 0)) false from (pI_prep (q := 0) hP a2 e (Or.inl (by omega))).2)
              exact R6_D (sl' := sl1) (lv' := ix1.2) hL hC hT fV hfd eD ⟨so', sd', gT⟩ qM.2.2.1 iV hPd hF (by omega) (by omega)
          refine q_comm91 (ids := ix1.1) (ln := fun n => (sl1 n).length) (lv := ix1.2) (wb := wbs cm) (w := w1) (cc := cc1) gW ⟨by omega, by omega⟩ (fun i n hi => ⟨by rw [lwI i1 wW 6 rfl]; exact (i5.2.1 i n hi).1, by have := (i5.2.1 i n hi).2; omega⟩) i5.1.2 (by rw [lwI i1 wW 15 rfl]; exact i5.1.1) vI (fun n hn => (i2.2.2 n (hM1 n hn)).2.1) (fun n hn => by rw [lwI i1 wW 4 rfl]; exact i5.2.2 n hn) (fun n hn => by rw [lwI i1 wW 5 rfl]; exact i11.1 n hn) (by rw [lwI i1 wW 15 rfl]; exact i12.1) (by rw [lwI i1 wW 15 rfl]; exact i12.2.1 rfl) hcc1 hr (fun W2 wW2 oW2 n4 n5 hDk w5 => ?_) (fun V d hcd hdD hV => q_189 (down V d hcd (by omega) hV))
          rw [← hD] at n4 n5 hDk
          have gW2 := lR_w wW2 gW
          unfold k_L_isCommitted_189
          refine ⟨fun c => absurd c hr2, fun _ => ⟨⟨by omega, by omega⟩, ?_⟩⟩
          refine q_L_writes (gW2.1 15 (by decide)) (gW2.1 8 (by decide)) (gW2.1 9 (by decide)) (gW2.1 10 (by decide)) (lR_ne g1 (by decide) (by decide) (by decide)) (lR_ne g1 (by decide) (by decide) (by decide)) (lR_ne g1 (by decide) (by decide) (by decide)) (cc_map hcc1) (lWn_0 (w := w1 + D) n4 n5) (fun W3 hk3 hW3 => ?_) (fun V hk0 hV => ?_)
          · obtain ⟨wW30, oW3, u4, u5, -⟩ := hW3
            have wW3 : lwT W2 W3 ([15].map ar) := wW30
            have gW3 := lR_w wW3 gW2
            have m3W : cI W3 (ar 15) 3 = nI ix1.1.length := by rw [oW3 3 (by decide), oW2 3 (by decide), lwI i1 wW 15 rfl]; exact i5.1.1
            refine ⟨fun _ => ?_, fun c => absurd c (by decide)⟩
            rw [nI_x 3 (by decide), m3W]
            have l27 := i5.1.2
            refine ⟨lR_X gW3 (i := 15) (by decide) (by decide), ?_⟩
            unfold k_L_isCommitted_219
            refine ⟨fun c => absurd c (fun z => ?_), fun _ => ?_⟩
            · have h1 : ¬ nI ix1.1.length < 0 := nI_pos (by omega)
              rw [z] at h1
              exact h1 (by decide)
            · rw [nI_x 0 (by decide)]
              refine ⟨lR_X gW3 (i := 8) (by decide) (by decide), fun W4 e4 => ?_⟩
              have wW4 : lwT W3 W4 ([8].map ar) := e4 ▸ lw_SI (by simp)
              have gW4 := lR_w wW4 gW3
              refine ⟨⟨by omega, by omega⟩, q_L_names (ids := ix1.1) (gW4.1 8 (by decide)) (gW4.1 6 (by decide)) (gW4.1 4 (by decide)) (gW4.1 15 (by decide)) (lR_ne g1 (by decide) (by decide) (by decide)) (lR_ne g1 (by decide) (by decide) (by decide)) (lR_ne g1 (by decide) (by decide) (by decide)) (by omega) (by rw [lwI gW3 wW4 15 rfl]; exact m3W) (fun V wV0 oV8 v1 v2 v3 => ?_)⟩
              have wV : lwT W4 V ([8].map ar) := wV0
              have wUV : lwT U V ([5, 8, 14, 15].map ar) := lw_tr (wl6 wW rfl) (lw_tr (wl6 wW2 rfl) (lw_tr (wl6 wW3 rfl) (lw_tr (wl6 wW4 rfl) (wl6 wV rfl) (fun _ z => z)) (fun _ z => z)) (fun _ z => z)) (fun _ z => z)
              have m15 : cI V (ar 15) = cI W3 (ar 15) := (lwI gW4 wV 15 rfl).trans (lwI gW3 wW4 15 rfl)
              have oUV : rO U V (ar 15) [4, 5] := fun q hq => by rw [m15, oW3 q hq, oW2 q hq, lwI i1 wW 15 rfl]
              have iV : I6 V ar dn1 made1 sl1 [] ix1 mg cm (some ix1) o1 o2 op fi (w1 + (D + 1)) (cc1.map (fun k => k - (D + 1))) false H sk tk R := by
                refine I6_prep iU hM1 wUV oUV ?_ ?_ (fun n hn => ?_) (fun i hi => ?_) ?_ v1 (fun i hi => ?_) (fun i hi => ?_)
                · rw [m15]; exact u4
                · rw [m15, u5]
                  cases cc1 with
                  | none => rfl
                  | some q => show cIn (some (q - D - (0 + 1))) = cIn (some (q - (D + 1))); rw [Nat.sub_sub]
                · rw [lwI gW4 wV 5 rfl, lwI gW3 wW4 5 rfl, lwI gW2 wW3 5 rfl]; exact w5 n hn
                · rw [lwI gW4 wV 14 rfl, lwI gW3 wW4 14 rfl, lwI gW2 wW3 14 rfl, lwI gW wW2 14 rfl]; exact b14 i hi
                · rw [oV8 0 (by decide), e4, cSI_s]
                · rw [v2 i hi, lwI gW3 wW4 6 rfl, lwI gW2 wW3 6 rfl, lwI gW wW2 6 rfl, lwI i1 wW 6 rfl]
                · rw [v3 i hi, lwI gW3 wW4 4 rfl, lwI gW2 wW3 4 rfl, lwI gW wW2 4 rfl, lwI i1 wW 4 rfl]
              have fV : fr S V ρ ρ [90] := fr_tr (fr_lw wU (tg_map hT hA)) (fr_lw wUV (tg_map hT rfl)) (fun _ _ z => z)
              obtain ⟨⟨so, sd, a1⟩, a2V, a3, a4, a5, a6⟩ := C6_fr fV (by decide) hC
              obtain ⟨fd, hfd⟩ := gFn_Fd a6
              have hlim : ∀ j, cc = some j → flC (BL.map dcR) + D + 1 ≤ j := fun j hj => by
                have h1 := hfl j hj
                have h2 : cc1 = some (j - flC (BL.map dcR)) := by rw [k1, hj]; rfl
                have h3 := hDk _ h2
                have h4 := hk3 (j - flC (BL.map dcR) - D) (by rw [h2]; rfl)
                omega
              unfold k_L_isCommitted_244
              refine ⟨mc, ms, by omega, by omega, did_prepare a1.1.1 (g_prepare a1 (Or.inl (by omega)) (g_prep41 a1 a2V hfd p10 (by omega) (by omega) (by omega) (by omega) (fun T ρ' so' sd' made' sg' ix' w' cc' e' hk1 eT gT => ?_) (fun T ρ' j hB hj hcj => ?_) (fun T ρ' so' sd' made' sg' ix' w' cc' j e' hj hcj eD gT => ?_)))⟩
              · obtain ⟨rfl, rfl, rfl, rfl, rfl⟩ := pr5 (e.symm.trans e')
                rw [hDe] at gT
                refine ⟨by omega, fun c => absurd rfl c, fun _ => ⟨by omega, hQ mc ms T bd2.1 bd2.2 ?_⟩⟩
                refine R6_I (sl' := sl1) (BL' := []) hL hC hT fV eT ⟨so', sd', gT⟩ qM iV (pI_k (Nat.le_succ k) (fun _ c => c) (pI_prep hP a2 e (Or.inl (by omega))).2) hF hmm hsl ?_ ?_
                · show _ + 610 * (0 + _) ≤ _; omega
                · show _ + 7000 * (0 + _) ≤ _; omega
              · exfalso
                have h1 := flC_n hB
                have h2 := hlim j hcj
                omega
              · exfalso
                obtain ⟨rfl, rfl, rfl, rfl, rfl⟩ := pr5 (e.symm.trans e')
                replace hcj : cc = some (flC (BL.map dcR) + j) := by
                  cases BL <;> exact hcj
                have h2 := hlim _ hcj
                rw [hDe] at hj
                omega
          · refine ⟨fun c => absurd rfl c, fun _ => q_210 (down V D ?_ (Nat.le_refl _) (dw_of wW2 oW2 hV))⟩
            cases cc1 with
            | none => exact absurd hk0 (by simp)
            | some q =>
              have h3 := hDk q rfl
              have h4 : q - D = 0 := Option.some.inj hk0
              congr 1
              omega
        unfold k_L_isCommitted
        rw [e6, e0]
        refine ⟨fun c => absurd rfl c, fun _ => ⟨c15, fun c => absurd c (by decide), fun _ => ⟨lR_X g1 (i := 8) (by decide) (by decide), fun _ => ⟨⟨by omega, by omega⟩, ?_⟩, fun c => absurd c (by show ¬ nI 0 = nI 1; decide)⟩⟩⟩
        refine q_L_flushed g1 p10 hb10 g3.1.2 (by omega) (by omega) g3.1.1 g4.1 g3.2.1.1 g5.1.1 g12.1 (g12.2.1 rfl) (fun h0 => ?_) (fun U hn hcn hU => ?_) (fun U j hn hj hcj hU => ?_)
        · have hB : BL = [] := List.eq_nil_of_length_eq_zero h0
          subst hB
          exact post S [] sl made dn ix w cc (-1) lw_rf rfl hI rfl (fun j _ => Nat.zero_le _) (Nat.le_refl _) (fun _ _ => rfl) (by decide)
        · have hB : BL ≠ [] := fun e => by rw [e] at hn; exact absurd hn (Nat.lt_irrefl _)
          have hB' : BL.map dcR ≠ [] := fun e => hB (List.map_eq_nil_iff.mp e)
          refine post U [0, 2, 3, 4, 5, 6, 15] (upR sl made BL) (made + 1) (dn + BL.length) (ix.1 ++ [made], lvF made ix.2) (w + (BL.length + 1)) (cc.map (fun k => k - (BL.length + 1))) (nI made) hU.1 rfl (I6_flush hI a2 p1.1 hB (by omega) hU) (by rw [flS_n hB', sgR_up, hml]) (fun q hq => by rw [flC_n hB', hml]; exact hcn q hq) (by omega) (fun n hn => upR_n (by omega)) (fun z => ?_)
          have h1 : ¬ nI made < 0 := nI_pos (by omega)
          exact h1 (Int32.lt_of_le_of_lt z (by decide))
        · -- down while the buffer is written
          have hB : BL ≠ [] := fun e => by rw [e] at hn; exact absurd hn (Nat.lt_irrefl _)
          have hB' : BL.map dcR ≠ [] := fun e => hB (List.map_eq_nil_iff.mp e)
          obtain ⟨wU0, oU, hm, q8, q9, q10⟩ := hU
          have wU : lwT S U ([15, 8, 9, 10].map ar) := wU0
          have gU := lR_w wU g1
          refine q_comm65 gU (fun V wV b14 => ?_)
          have gV := lR_w wV gU
          have wSV : lwT S V ([8, 9, 10, 14, 15].map ar) := lw_tr (wl6 wU rfl) (wl6 wV rfl) (fun _ z => z)
          have oSV : rO S V (ar 15) [1, 3, 4, 5, 6, 9, 13, 14, 15, 16] := fun q hq => by rw [lwI gU wV 15 rfl, oU q hq]
          have iV : I6 V ar dn made sl [] ([], ix.2) none cm none none none op fi (w + j) none true [] 0 0 [] := I6_Dp g1 g2 g3 g7 g12.2.2.2 gV ⟨lwJ g1 wSV 0 rfl, lwJ g1 wSV 2 rfl⟩ ⟨lwI g1 wSV 3 rfl, lwI g1 wSV 7 rfl⟩ oSV (by rw [lwI gU wV 15 rfl]; exact hm) (by rw [lwI gU wV 8 rfl]; exact q8) (by rw [lwI gU wV 9 rfl]; exact q9) (by rw [lwI gU wV 10 rfl]; exact q10)
          have fV := fr_lw (ρ := ρ) wSV (tg_map hT rfl)
          obtain ⟨⟨so, sd, a1⟩, a2V, a3, a4, a5, a6⟩ := C6_fr fV (by decide) hC
          obtain ⟨fd, hfd⟩ := gFn_Fd a6
          unfold k_L_isCommitted_91L
          refine lfp_cnt 0 (fun _ y => y = (x, ar 4, ar 5, ar 6, ar 8, ar 9, ar 10, ar 15, -2, nI 0, 0, 0, V)) ?_ rfl
          rintro P i _ _ rfl _
          show k_L_isCommitted_91 (Q mc ms) dp mc ms _ x (ar 4) (ar 5) (ar 6) (ar 8) (ar 9) (ar 10) (ar 15) (-2) (nI 0) 0 0 V
          unfold k_L_isCommitted_91
          rw [nI_x 3 (by decide), lwI gU wV 15 rfl, hm.2.2.2.1]
          refine ⟨lR_X gV (i := 15) (by decide) (by decide), fun _ => q_189 ?_, fun z => absurd (by decide) z⟩
          refine ⟨mc, ms, by omega, by omega, did_prepare a1.1.1 (g_prepare a1 (Or.inl (by omega)) (g_prep41 a1 a2V hfd p10 (by omega) (by omega) (by omega) (by omega) (fun T ρ' so' sd' made' sg' ix' w' cc' e' hk1 => ?_) (fun T ρ' j' hB2 hj' hcj' eD gT => ?_) (fun T ρ' so' sd' made' sg' ix' w' cc' j' e' hj' hcj' => ?_)))⟩
          · exfalso
            have h1 : flC (BL.map dcR) + chN sg' ix' cm + 1 ≤ j := by
              have h := hk1 j hcj
              cases BL <;> exact h
            rw [flC_n hB', hml] at h1
            omega
          · obtain rfl : j = j' := Option.some.inj (hcj.symm.trans hcj')
            refine ⟨by omega, fun c => absurd rfl c, fun _ => ⟨by omega, hQ mc ms T bd2.1 bd2.2 ?_⟩⟩
            exact R6_D (sl' := sl) (lv' := ix.2) hL hC hT fV hfd eD ⟨so, sd, gT⟩ a2.2.2.1 iV (pI_D hP) hF (by omega) (by omega)
          · exfalso
            replace hcj' : cc = some (flC (BL.map dcR) + j') := by
              cases BL <;> exact hcj'
            rw [flC_n hB', hml] at hcj'
            have h2 : j = BL.length + 1 + j' := Option.some.inj (hcj.symm.trans hcj')
            omega
end LZI
