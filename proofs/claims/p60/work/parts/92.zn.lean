section LZP
variable {S V T U : cS} {dp x k cd dd : Nat} {ar : Nat → Nat}
theorem q_added {Q : Nat → Nat → Int32 → cS → Prop} {t u0 : Nat} (h : R6 k S dp x ar cd dd) (hk : k ≤ 250) (ht : t < 10000000) (hu0 : u0 < 10000000) (hroom : ¬ nI 60 ≤ cI S (ar 15) (nI 0).toNatClampNeg + cI S (ar 15) (nI 1).toNatClampNeg) (hQ : ∀ m1 m2 T, cd + m1 ≤ 500000 → dd + m2 ≤ 5000000 → R6 (k + 1) T dp x ar (cd + m1) (dd + m2) → Q m1 m2 (bI true) T) : ∃ m1 m2, cd + m1 ≤ 500000 ∧ dd + m2 ≤ 5000000 ∧ k_L_isAdded (Q m1 m2) dp m1 m2 x (ar 0) (ar 1) (ar 2) (ar 3) (ar 4) (ar 6) (ar 15) (nI t) (nI u0) S := by
  have bd := R6_bd hk (a := 907) (b := 7312) (by decide) (by decide) h
  obtain ⟨ρ, ad, dn, made, sl, BL, ix, mg, cm, pr, sn, o1, o2, op, fi, w, cc, off, H, sk, tk, CL, u, R, hL, hC, hI, hT, hP, hF, hc1, hc2⟩ := id h
  obtain ⟨Pp, c0', c1', n0', P0', n1', P1', gL⟩ := id hL
  have hroom' : dn + BL.length < 60 := by
    obtain ⟨g1, g2, g3, g4, -⟩ := id hI
    rw [nI_x 0 (by decide), nI_x 1 (by decide), g3.1.1, g4.1, nI_add, nI_leI (by decide) (by have := g3.1.2; omega)] at hroom
    omega
  have hkey : t % 10 < 10 := Nat.mod_lt _ (by decide)
  have hc3 : t / 10 % 3 < 3 := Nat.mod_lt _ (by decide)
  have hc5 : t / 30 % 5 < 5 := Nat.mod_lt _ (by decide)
  refine ⟨907, 7312, bd.1, bd.2, ?_⟩
  unfold k_L_isAdded
  rw [i_mod (by omega) (by decide) (by decide)]
  rintro _ rfl
  rw [nI_toL (by omega), ← D00_hx hkey]
  rintro _ rfl
  rw [D00_hx hkey]
  have hkx : (hx (D00 (t % 10)) 12) = t % 10 := D00_hx hkey
  -- after both fields
  have fin : ∀ (T : cS) (ρ' : Nat → Nat) (P' : Nat → Nat) (n0 n1 : Nat) (P0 P1 : Nat → Nat) (ws0 ws1 : List Nat) (D1 D : Nat → Nat), fr S T ρ ρ' [2, 3, 4, 5, 6] → DFo (D00 (t % 10)) D1 0 ws0 → DFo D1 D 1 ws1 → (ws0.length ≤ 5 ∧ ∀ w, w ∈ ws0 → 1 ≤ w ∧ w ≤ 7) → (ws1.length ≤ 5 ∧ ∀ w, w ∈ ws1 → 1 ≤ w ∧ w ≤ 7) → TXo P0 n0 ws0 → TXo P1 n1 ws1 → gLD T ρ' x 0 P' 1 A6 1 F6 G6 ad c0' c1' n0 P0 n1 P1 → ∀ R18, k_L_isAdded_18 (Q 907 7312) dp 907 7312 R18 x (ar 0) (ar 1) (ar 2) (ar 3) (ar 4) (ar 6) (ar 15) (nI t) (nI u0) (nI (t % 10)) (lN (hx D 12)) (nI 1) (nI 2) (0 + 226 + 226) (0 + 1821 + 1821) T := fun T ρ' P' n0 n1 P0 P1 ws0 ws1 D1 D fT hD1 hD l0 l1 t0 t1 gT R18 => by
    obtain ⟨rc1, rc2, rc3, rc4⟩ := rec_ok hkey hD1 hD l0 l1 hc3 hc5
    unfold k_L_isAdded_18
    refine ⟨fun _ => ⟨gT.1, ⟨by omega, by omega⟩, ?_⟩, fun z => absurd (by decide) z⟩
    have e10 : nI t / nI 10 = nI (t / 10) := pk_div (by omega) (by decide) (by decide)
    have e30 : nI t / nI 30 = nI (t / 30) := pk_div (by omega) (by decide) (by decide)
    have m10 : nI (t / 10) - nI (t / 10) / nI 3 * nI 3 = nI (t / 10 % 3) := i_mod (by omega) (by decide) (by decide)
    have m30 : nI (t / 30) - nI (t / 30) / nI 5 * nI 5 = nI (t / 30 % 5) := i_mod (by omega) (by decide) (by decide)
    rw [e10, e30, m10, m30]
    refine g_columns gT (by omega) (by omega) (fun V fV gV => ?_)
    rw [nI_toL (by omega), nI_toL (by omega), jSl_N (by decide) (by omega), jSl_N (by decide) (by omega), rc1]
    rintro _ rfl
    have fSV : fr S V ρ ρ' [2, 3, 4, 5, 6] := fr_mix fT (fr_up fV (by decide))
    have hCV := C6_fr fSV (by decide) hC
    obtain ⟨gRV, hTV, eIV, eJV⟩ := I6_rows hI.1 hT fSV (by decide)
    have hIV := I6_eq gRV eIV eJV hI
    have hLV : cL6 ad V ρ' x := ⟨P', _, _, n0, P0, n1, P1, gV⟩
    obtain ⟨g1, g2, g3, g4, g5, g6, ⟨g7, g8, g9, g10⟩, g11, g12, g13⟩ := id hIV
    obtain ⟨⟨so, sd, a1⟩, a2, ⟨nd, a3⟩, a4, a5, a6⟩ := id hCV
    rw [nI_x 6 (by decide), nI_x 1 (by decide), g12.2.2.1]
    refine ⟨lR_X g1 (i := 15) (by decide) (by decide), fun c => ?_, fun c => ?_⟩
    · cases off with
      | true => exact absurd rfl c
      | false =>
        have hub := hP.2.1.1
        have hux := hP.2.1.2
        refine ⟨⟨by omega, by omega⟩, I6_dels hIV hP.1.1.1 (by omega) (fun W wW iW _ => ?_)⟩
        have gW := lR_w wW g1
        have m1W : cI W (ar 15) 1 = nI (bfK BL (t % 10)).length := (iW (lvK sl ix.2 (t % 10)) (fun _ _ => rfl)).2.2.2.1.1
        have hbl := bf_map (key := t % 10) (BL := BL)
        have hb10 := g4.2.1
        rw [m1W, nI_x (bfK BL (t % 10)).length (by omega)]
        refine ⟨lR_X gW (i := 15) (by decide) (by decide), lR_X gW (i := 1) (by decide) (show _ < 12 by omega), fun S6 e6 => ?_⟩
        have w6 : lwT W S6 ([1].map ar) := e6 ▸ lw_SJ (by simp)
        have g6' := lR_w w6 gW
        have m16 : cI S6 (ar 15) 1 = nI (bfK BL (t % 10)).length := by rw [lwI gW w6 15 rfl]; exact m1W
        rw [m16, nI_add]
        refine ⟨lR_X g6' (i := 15) (by decide) (by decide), lR_X g6' (i := 15) (by decide) (by decide), fun S7 e7 => ⟨fun z => absurd z (by decide), fun _ => ?_⟩⟩
        have w7 : lwT S6 S7 ([15].map ar) := e7 ▸ lw_SI (by simp)
        have w67 : lwT W S7 ([1, 15].map ar) := lw_tr (wl6 w6 rfl) (wl6 w7 rfl) (fun _ z => z)
        have wV7 : lwT V S7 ([1, 4, 15].map ar) := lw_tr wW (wl6 w67 rfl) (fun _ z => z)
        have f7 := fr_lw (ρ := ρ') wV7 (tg_map hTV rfl)
        have hC7 := C6_fr f7 (by decide) hCV
        obtain ⟨⟨so7, sd7, b1⟩, b2, ⟨nd7, b3⟩, b4, b5, b6⟩ := id hC7
        have gV7 := gLD_90 f7 gV
        obtain ⟨⟨q1, q2, q3⟩, gs, gb, ⟨Vx, gv1, gv2⟩, ⟨go1, go2⟩, gc, gp, gss, gci⟩ := id b1
        have hkB : ∀ d, d ∈ BL.map dcR → dK d < 100 := fun d hd => by
          obtain ⟨b, -, rfl⟩ := List.mem_map.mp hd
          rw [dK_R]; omega
        have hkS : ∀ n, n ∈ ix.1 → ∀ d, d ∈ sgR sl n → dK d < 100 := fun n hn d hd => by
          obtain ⟨b, -, rfl⟩ := List.mem_map.mp hd
          rw [dK_R]; omega
        have hml : (BL.map dcR).length = BL.length := List.length_map _
        have eD : mkD 1 A6 1 F6 G6 (t % 10) (t / 10 % 3) (t / 30 % 5) n0 P0 n1 P1 = dcR (hx (upR D 11 (t / 10 % 3)) 12 + t / 30 % 5 * 16 ^ 12) := by
          rw [rc4]
          unfold mkD
          exact congrArg (Prod.mk _) (by rw [← t0, ← t1]; rfl)
        refine ⟨455, 3670, by omega, by omega, did_add b1.1.1 (g_add b1 (by omega) (Or.inl (by omega)) (g_add39 (P0' := P0) (P1' := P1) gV7 gb gv1 gs gv2 b2.1 hP.1.1.1 q3 (by omega) (by omega) (by omega) (Or.inl (by omega)) (by omega) (by omega) (fun T2 ρ2 B' lv' b' f2 hdk gT2 gbT gvT xi xr => ⟨by omega, ?_⟩)))⟩
        obtain ⟨eB', hlv, -⟩ := dk_law (by omega) hub hux (hP.1.1.2 (t % 10)) hdk
        rw [eD] at gbT
        have hPA := pI_add (k := k) hP (by omega) hkB hkS hdk (show dK (dcR (hx (upR D 11 (t / 10 % 3)) 12 + t / 30 % 5 * 16 ^ 12)) = t % 10 by rw [dK_R]; exact rc3) (tIn_R _)
        subst eB'
        have eBL : (bfK BL (t % 10)).map dcR ++ [dcR (hx (upR D 11 (t / 10 % 3)) 12 + t / 30 % 5 * 16 ^ 12)] = (bfK BL (t % 10) ++ [hx (upR D 11 (t / 10 % 3)) 12 + t / 30 % 5 * 16 ^ 12]).map dcR := by rw [List.map_append]; rfl
        rw [eBL] at hPA gbT
        have iW' := iW lv' hlv
        have hl10 : (bfK BL (t % 10) ++ [hx (upR D 11 (t / 10 % 3)) 12 + t / 30 % 5 * 16 ^ 12]).length ≤ 10 := bl_10 hPA.2.1.1 (fun b hb => by
          rcases List.mem_append.mp hb with z | z
          · exact (iW'.2.2.1.2.2.2 b z).2.1
          · rw [List.mem_singleton.mp z]; exact rc2.2.1)
        rw [List.length_append] at hl10
        have hl10' : (bfK BL (t % 10)).length + 1 ≤ 10 := hl10
        have i7 : I6 S7 ar dn made sl (bfK BL (t % 10) ++ [hx (upR D 11 (t / 10 % 3)) 12 + t / 30 % 5 * 16 ^ 12]) (ix.1, lv') mg cm pr o1 o2 op fi w cc false H sk tk R := I6_push iW' hl10' (by omega) rc2 w67 (fun q hq => by rw [e7, cSI_o (by simpa using hq), lwI gW w6 15 rfl]) (by rw [e7, cSI_s]) (fun i hi => by rw [lwJ g6' w7 1 rfl, e6, cSJ_o (by omega)]) (by rw [lwJ g6' w7 1 rfl, e6, cSJ_s])
        obtain ⟨gR2, hT2, eI2, eJ2⟩ := I6_rows i7.1 hTV f2 (by decide)
        have xρ : ρ2 x = 1 := gT2.2.1
        have gsT := gSegs_fr (fr_fk f2 (by decide)) (by decide) gs
        have gIT : gIx T2 ρ2 dp x so7 sd7 (sgR sl) made ((bfK BL (t % 10) ++ [hx (upR D 11 (t / 10 % 3)) 12 + t / 30 % 5 * 16 ^ 12]).map dcR) (ix.1, lv') mg cm pr sn op fi w cc false := by
          refine ⟨⟨gT2.1, xρ, dp_O⟩, gsT, gbT, ⟨Vx, (xr _ (by decide)).trans gv1, gvT⟩, ⟨?_, (xi _).trans go2⟩, ?_, ?_, gSs_fr f2 (by decide) (by decide) (xr _ (by decide)) gsT b2.2.2.2.2 gss, ?_⟩
          · rw [xr _ (by decide)]; exact gOv_fr f2 (by decide) gsT b2.2.1 go1
          · rw [xr _ (by decide)]; exact gOv_fr f2 (by decide) gsT b2.2.2.1 gc
          · rw [xr _ (by decide)]; exact gOv_fr f2 (by decide) gsT b2.2.2.2.1 gp
          · simp only [xi]; exact gci
        have hlen2 : (bfK BL (t % 10) ++ [hx (upR D 11 (t / 10 % 3)) 12 + t / 30 % 5 * 16 ^ 12]).length = (bfK BL (t % 10)).length + 1 := by rw [List.length_append]; rfl
        have hR : R6 (k + 1) T2 dp x ar (cd + 907) (dd + 7312) := ⟨ρ2, true, dn, made, sl, _, (ix.1, lv'), mg, cm, pr, sn, o1, o2, op, fi, w, cc, false, H, sk, tk, CL, u, R, ⟨P', _, _, _, _, _, _, gT2⟩, ⟨⟨so7, sd7, gIT⟩, b2, ⟨nd7, gPr_f f2 (by decide) (by decide) (by decide) (xr _ (by decide)) b3⟩, gQl_f f2 (by decide) (by decide) (by decide) (xr _ (by decide)) b4, gRd_f f2 (by decide) (xr _ (by decide)) b5, gFn_f f2 (by decide) (xr _ (by decide)) (xr _ (by decide)) b6⟩, I6_eq gR2 eI2 eJ2 i7, hT2, hPA, ⟨hF.1, hF.2.1, hF.2.2.1, by have := hF.2.2.2; omega⟩, by rw [hlen2]; omega, by rw [hlen2]; omega⟩
        rw [eI2 15 (by decide), i7.2.2.2.1.1, hlen2, List.length_map]
        exact ⟨lR_X gR2 (i := 15) (by decide) (by decide), fun z => absurd rfl z, fun _ => ⟨by omega, hQ 907 7312 T2 bd.1 bd.2 hR⟩⟩
    · cases off with
      | false => exact absurd c (by decide)
      | true =>
        refine ⟨fun z => absurd z (by decide), fun _ => ⟨455, 3670, by omega, by omega, didX_add a1.1.1 (by omega) (x_addS a1 (Or.inl rfl) (fun d hd => ?_) (by omega) (by omega) (by omega) ⟨by omega, fun z => absurd rfl z, fun _ => ⟨by omega, hQ 907 7312 V bd.1 bd.2 ?_⟩⟩)⟩⟩
        · obtain ⟨b, -, rfl⟩ := List.mem_map.mp hd
          rw [dK_R]; omega
        · exact ⟨ρ', ad, dn, made, sl, BL, ix, mg, cm, pr, sn, o1, o2, op, fi, w, cc, true, H, sk, tk, CL, u, R, hLV, hCV, hIV, hTV, pI_k (Nat.le_succ k) (fun _ c => c) hP, ⟨hF.1, hF.2.1, hF.2.2.1, by have := hF.2.2.2; omega⟩, by omega, by omega⟩
  have h00 := D00_16 hkey
  have hux : (u0 / 17 ^^^ t) < 2 ^ 24 := Nat.xor_lt_two_pow (by omega) (by omega)
  unfold k_L_isAdded_18L
  refine lfp_cnt 2 (fun i y => (i = 0 ∧ y = (x, ar 0, ar 1, ar 2, ar 3, ar 4, ar 6, ar 15, nI t, nI u0, nI (t % 10), lN (hx (D00 (t % 10)) 12), nI 1, nI 0, 0, 0, S)) ∨ (i = 1 ∧ ∃ T ρ' P' l P0 ws0 D1, fr S T ρ ρ' [2, 3, 4, 5, 6] ∧ DFo (D00 (t % 10)) D1 0 ws0 ∧ (ws0.length ≤ 5 ∧ ∀ w, w ∈ ws0 → 1 ≤ w ∧ w ≤ 7) ∧ TXo P0 l ws0 ∧ gLD T ρ' x 0 P' 1 A6 1 F6 G6 ad c0' c1' l P0 n1' P1' ∧ y = (x, ar 0, ar 1, ar 2, ar 3, ar 4, ar 6, ar 15, nI t, nI u0, nI (t % 10), lN (hx D1 12), nI 1, nI 1, 0 + 226, 0 + 1821, T)) ∨ (i = 2 ∧ ∃ T ρ' P' n0 n1 P0 P1 ws0 ws1 D1 D, fr S T ρ ρ' [2, 3, 4, 5, 6] ∧ DFo (D00 (t % 10)) D1 0 ws0 ∧ DFo D1 D 1 ws1 ∧ (ws0.length ≤ 5 ∧ ∀ w, w ∈ ws0 → 1 ≤ w ∧ w ≤ 7) ∧ (ws1.length ≤ 5 ∧ ∀ w, w ∈ ws1 → 1 ≤ w ∧ w ≤ 7) ∧ TXo P0 n0 ws0 ∧ TXo P1 n1 ws1 ∧ gLD T ρ' x 0 P' 1 A6 1 F6 G6 ad c0' c1' n0 P0 n1 P1 ∧ y = (x, ar 0, ar 1, ar 2, ar 3, ar 4, ar 6, ar 15, nI t, nI u0, nI (t % 10), lN (hx D 12), nI 1, nI 2, 0 + 226 + 226, 0 + 1821 + 1821, T))) ?_ (Or.inl ⟨rfl, by rw [hkx]⟩)
  rintro P i _ _ (⟨rfl, rfl⟩ | ⟨rfl, T, ρ', P', l, P0, ws0, D1, fT, hD1, l0, t0, gT, rfl⟩ | ⟨rfl, T, ρ', P', n0, n1, P0, P1, ws0, ws1, D1, D, fT, hD1, hD, l0, l1, t0, t1, gT, rfl⟩) ih
  · show k_L_isAdded_18 (Q 907 7312) dp 907 7312 _ x (ar 0) (ar 1) (ar 2) (ar 3) (ar 4) (ar 6) (ar 15) (nI t) (nI u0) (nI (t % 10)) (lN (hx (D00 (t % 10)) 12)) (nI 1) (nI 0) 0 0 S
    unfold k_L_isAdded_18 k_L_isAdded_42
    refine ⟨fun z => absurd z (by decide), fun _ => ⟨fun z => absurd rfl z, fun _ => ?_⟩⟩
    refine q_ad47 gL.1 (by decide) (by omega) h00.1 (fun j hj => h00.2 j (by omega)) ⟨by omega, by omega⟩ gL (fun T ρ' P P' l ws D fT hD lw tx gT => ?_)
    exact ih _ (by decide) (Or.inr (Or.inl ⟨rfl, T, ρ', P', l, P, ws, D, fT, hD, lw, tx, gT, rfl⟩))
  · show k_L_isAdded_18 (Q 907 7312) dp 907 7312 _ x (ar 0) (ar 1) (ar 2) (ar 3) (ar 4) (ar 6) (ar 15) (nI t) (nI u0) (nI (t % 10)) (lN (hx D1 12)) (nI 1) (nI 1) (0 + 226) (0 + 1821) T
    unfold k_L_isAdded_18 k_L_isAdded_42
    refine ⟨fun z => absurd z (by decide), fun _ => ⟨fun _ => ?_, fun z => absurd z (by decide)⟩⟩
    rw [pk_div (by omega) (by decide) (by decide), nI_xor]
    refine q_ad47 gT.1 (by decide) (by omega) hD1.1 (fun j hj => hD1.2.1 j (by omega)) ⟨by omega, by omega⟩ gT (fun T2 ρ2 P P2 l2 ws D fT2 hD lw tx gT2 => ?_)
    exact ih _ (by decide) (Or.inr (Or.inr ⟨rfl, T2, ρ2, P2, l, l2, P0, P, ws0, ws, D1, D, fr_mix fT fT2, hD1, hD, l0, lw, t0, tx, gT2, rfl⟩))
  · exact fin T ρ' P' n0 n1 P0 P1 ws0 ws1 D1 D fT hD1 hD l0 l1 t0 t1 gT _
end LZP
