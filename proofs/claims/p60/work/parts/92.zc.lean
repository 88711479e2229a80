/-! the cases of finishing and dropping -/
section LZD
variable {S V T W : cS} {ρ : Nat → Nat} {dp x k cd dd made dn : Nat} {ar : Nat → Nat} {sl : Nat → List Nat} {BL : List Nat} {ix : Vw} {mg : Option (Vw × Nat)} {cm pr : Option Vw} {o1 o2 : Option (Nat × Vw)} {op fi w w' : Nat} {cc : Option Nat} {off ad : Bool} {H : List (Nat × Nat)} {sk tk : Nat} {R : List (Nat × Nat)}
theorem I6_Dp {lv' : Nat → Nat → Bool} (g1 : lRow S ar) (g2 : lSeg S (ar 0) (ar 2) (ar 3) dn made sl) (g3 : lSz6 S (ar 15) dn made sl BL) (g7 : lOf S (ar 7) made sl (ofO cm) (cmV cm)) (h7 : cI S (ar 15) 7 = nI fi ∧ cI S (ar 15) 8 = nI op) (gV : lRow V ar) (eJ : cJ V (ar 0) = cJ S (ar 0) ∧ cJ V (ar 2) = cJ S (ar 2)) (eI : cI V (ar 3) = cI S (ar 3) ∧ cI V (ar 7) = cI S (ar 7)) (oV : rO S V (ar 15) [1, 3, 4, 5, 6, 9, 13, 14, 15, 16]) (hm : cI V (ar 15) 4 = nI w' ∧ cI V (ar 15) 6 = nI 1 ∧ cI V (ar 15) 1 = nI 0 ∧ cI V (ar 15) 3 = nI 0 ∧ cI V (ar 15) 9 = nI 0 ∧ cI V (ar 15) 13 = nI 0 ∧ cI V (ar 15) 14 = nI 0 ∧ cI V (ar 15) 15 = nI 0 ∧ cI V (ar 15) 16 = nI 0) (p0 : cI V (ar 8) 0 = nI 0) (q0 : cI V (ar 9) 0 = nI 0) (g0 : cI V (ar 10) 0 = nI 0) : I6 V ar dn made sl [] ([], lv') none cm none none none op fi w' none true [] 0 0 [] := by
  obtain ⟨m4, m6, m1, m3, m9, m13, m14, m15, m16⟩ := hm
  have emp : ∀ i, i < 16 → cA V (ar i) 14 ∧ cn V (ar i) = 64 → cI V (ar i) 0 = nI 0 → lOf V (ar i) made sl 0 ([], fun _ _ => true) := fun i hi h1 h2 => ⟨h1, ⟨h2, by decide⟩, fun c => absurd c (by decide)⟩
  exact ⟨gV, lSeg_eq (gV.1 0 (by decide)) (gV.1 2 (by decide)) (gV.1 3 (by decide)) eJ.1 eJ.2 eI.1 g2, ⟨⟨(oV 0 (by decide)).trans g3.1.1, by have := g3.1.2; show dn + 0 ≤ 60; omega⟩, ⟨(oV 2 (by decide)).trans g3.2.1.1, g3.2.1.2⟩, g3.2.2.1, fun a ha => absurd ha List.not_mem_nil⟩, ⟨m1, Nat.zero_le _, fun i a hi => absurd (get_lt hi) (Nat.not_lt_zero i)⟩, ⟨⟨m3, Nat.zero_le _⟩, fun k n hk => absurd (get_lt hk) (Nat.not_lt_zero k), fun n hn => absurd hn List.not_mem_nil⟩, ⟨m9, fun s c e => absurd e (by simp)⟩, ⟨lOf_eq (gV.1 7 (by decide)) eI.2 g7, ⟨gV.1 8 (by decide), ⟨p0, by decide⟩, fun c => absurd c (by decide)⟩, emp 9 (by decide) (gV.1 9 (by decide)) q0, emp 10 (by decide) (gV.1 10 (by decide)) g0⟩, ⟨fun n hn => absurd hn List.not_mem_nil, fun p e => absurd e (by simp)⟩, ⟨m4, fun c => absurd c (by decide), m6, (oV 7 (by decide)).trans h7.1, (oV 8 (by decide)).trans h7.2⟩, ⟨m14, Nat.zero_le _, fun i x hx => absurd (get_lt hx) (Nat.not_lt_zero i)⟩, m15, m16, m13, Nat.zero_le _, fun i y hy => absurd (get_lt hy) (Nat.not_lt_zero i)⟩
theorem lw_sub {A : List Nat} (h : lwT S T A) : cSub S T (fun a => a ∈ A) := fun a ha => by
  obtain ⟨⟨h1, h2, h3, h4, h5, h6, h7⟩, h8⟩ := h
  exact ⟨⟨by rw [h1]; exact ha, by rw [h2], by rw [h6]⟩, fun hF => ⟨fun q => ⟨by rw [h3], by rw [h4], by rw [h5]⟩, (h8 a hF).1, (h8 a hF).2, by rw [h7]⟩⟩
/-- a copy of a row of 64 -/
theorem q_L_copy {Q : Nat → cS → Prop} {c : Nat} (gc : cA S c 14 ∧ cn S c = 64) (hk : ∀ q T, q ∉ cL S → cSub S T (fun _ => False) → cA T q 14 ∧ cn T q = 64 → (∀ j, j < 64 → cI T q j = cI S c j) → Q q T) : k_L_copy Q dp 1 64 c S := by
  unfold k_L_copy
  refine ⟨64, rfl, by decide, by decide, by decide, fun q hq S3 e3 => ?_⟩
  have sub3 : cSub S S3 (fun _ => False) := by rw [e3]; exact sub_A hq
  have gq : cA S3 q 14 ∧ cn S3 q = 64 := by rw [e3]; exact ⟨⟨List.mem_append_right _ (List.mem_singleton.mpr rfl), upR_s⟩, upR_s⟩
  have gc3 : cA S3 c 14 ∧ cn S3 c = 64 := ⟨sub_A1 sub3 gc.1, (sub_cn sub3 gc.1).trans gc.2⟩
  have hcq : c ≠ q := fun e => hq (e ▸ gc.1.1)
  unfold k_L_copy_7L
  refine lfp_cnt 64 (fun i y => ∃ W, lwT S3 W [q] ∧ (∀ j, j < i → cI W q j = cI S c j) ∧ y = (c, q, nI i, 0 + 1, 0 + 64, W)) ?_ ⟨S3, lw_rf, fun j hj => absurd hj (Nat.not_lt_zero j), rfl⟩
  rintro P i _ hi ⟨W, wW, bW, rfl⟩ ih
  show k_L_copy_7 Q dp 1 64 _ c q (nI i) (0 + 1) (0 + 64) W
  have gqW := lw_row wW gq
  have gcW := lw_row wW gc3
  unfold k_L_copy_7
  refine pk_le 64 i (fun d => ?_) (fun d => ?_)
  · obtain rfl : i = 64 := by omega
    have sub4 : cSub S W (fun _ => False) := sub_tr sub3 (lw_sub wW) (fun a ha hin => hq (by rw [List.mem_singleton.mp hin] at ha; exact ha))
    exact ⟨⟨by decide, by decide⟩, hk q W hq sub4 gqW bW⟩
  · rw [nI_x i (by omega), lw_I wW (rI3.mpr hcq), sub_cI sub3 gc.1 (fun z => z)]
    refine ⟨cX_mk gcW.1 gcW.2 (by decide) d rfl, cX_mk gqW.1 gqW.2 (by decide) d rfl, fun S4 e4 => ?_⟩
    have w4 : lwT W S4 [q] := e4 ▸ lw_SI (by simp)
    rintro _ rfl
    rw [nI_add]
    refine ih _ d ⟨S4, lw_tr wW w4 (fun _ z => z), fun j hj => ?_, rfl⟩
    by_cases cj : j = i
    · rw [cj, e4, cSI_s]
    · rw [e4, cSI_o cj]; exact bW j (by omega)
theorem fr_new (h : cSub S T (fun _ => False)) : fr S T ρ (fun a => if a ∈ cL S then ρ a else 90) [90] := ⟨sub_wk h (fun _ _ z => z.elim), fun a ha _ => if_pos ha⟩
theorem q_comm385 {Q : Int32 → cS → Prop} {mc ms cd dd : Nat} {t15 : Int32} (g : lRow S ar) {a7 : Nat} (h7 : cI S (ar 15) 7 = nI a7) (hk : ∀ W, lwT S W ([7, 15].map ar) → (∀ j, j < 64 → cI W (ar 7) j = cI S (ar 8) j) → rO S W (ar 15) [7] → cI W (ar 15) 7 = nI (a7 + 1) → k_L_isCommitted_417 Q dp mc ms x (ar 8) (ar 15) t15 cd dd W) : k_L_isCommitted_385L Q dp mc ms x (ar 7) (ar 8) (ar 15) t15 (nI 0) cd dd S := by
  unfold k_L_isCommitted_385L
  refine lfp_cnt 64 (fun i y => ∃ W, lwT S W ([7].map ar) ∧ (∀ j, j < i → cI W (ar 7) j = cI S (ar 8) j) ∧ y = (x, ar 7, ar 8, ar 15, t15, nI i, cd, dd, W)) ?_ ⟨S, lw_rf, fun j hj => absurd hj (Nat.not_lt_zero j), rfl⟩
  rintro P i _ hi ⟨W, wW, bW, rfl⟩ ih
  show k_L_isCommitted_385 Q dp mc ms _ x (ar 7) (ar 8) (ar 15) t15 (nI i) cd dd W
  have gW := lR_w wW g
  unfold k_L_isCommitted_385
  refine pk_le 64 i (fun d => ?_) (fun d => ?_)
  · obtain rfl : i = 64 := by omega
    rw [nI_x 7 (by decide), lwI g wW 15 rfl, h7, nI_add]
    refine ⟨lR_X gW (i := 15) (by decide) (by decide), lR_X gW (i := 15) (by decide) (by decide), fun S1 e1 => hk S1 ?_ (fun j hj => ?_) (fun q hq => ?_) ?_⟩
    · exact lw_tr (lw_wk wW (fun a ha => by simp at ha ⊢; simp [ha])) (e1 ▸ lw_SI (by simp)) (fun _ z => z)
    · rw [e1, cI_SI_ne (lR_ne g (by decide) (by decide) (by decide))]; exact bW j hj
    · rw [e1, cSI_o (by simpa using hq), lwI g wW 15 rfl]
    · rw [e1, cSI_s]
  · rw [nI_x i (by omega), lwI g wW 8 rfl]
    refine ⟨lR_X gW (i := 8) (by decide) (show i < 64 from d), lR_X gW (i := 7) (by decide) (show i < 64 from d), fun S4 e4 => ?_⟩
    have w4 : lwT W S4 ([7].map ar) := e4 ▸ lw_SI (by simp)
    rintro _ rfl
    rw [nI_add]
    refine ih _ d ⟨S4, lw_tr wW w4 (fun _ z => z), fun j hj => ?_, rfl⟩
    by_cases cj : j = i
    · rw [cj, e4, cSI_s]
    · rw [e4, cSI_o cj]; exact bW j (by omega)
theorem q_comm1 {Q : Nat → Nat → Int32 → cS → Prop} (h : R6 k S dp x ar cd dd) (hk : k ≤ 250) (hQ : ∀ m1 m2 T, cd + m1 ≤ 500000 → dd + m2 ≤ 5000000 → R6 (k + 1) T dp x ar (cd + m1) (dd + m2) → Q m1 m2 (bI true) T) : ∃ m1 m2, cd + m1 ≤ 500000 ∧ dd + m2 ≤ 5000000 ∧ k_L_isCommitted (Q m1 m2) dp m1 m2 x (ar 0) (ar 1) (ar 2) (ar 3) (ar 4) (ar 5) (ar 6) (ar 7) (ar 8) (ar 9) (ar 10) (ar 15) (ar 14) (nI 1) S := by
  have bd := R6_bd hk (a := 3) (b := 70) (by decide) (by decide) h
  have hk6 := R6_k (cd' := cd + 3) (dd' := dd + 70) (by omega) (by omega) h
  obtain ⟨ρ, ad, dn, made, sl, BL, ix, mg, cm, pr, sn, o1, o2, op, fi, w, cc, off, H, sk, tk, CL, u, R, hL, hC, hI, hT, hP, hF, hc1, hc2⟩ := id h
  obtain ⟨g1, g2, g3, g4, g5, g6, ⟨g7, g8, g9, g10⟩, g11, g12, g13⟩ := id hI
  obtain ⟨⟨p1, p2, p3, p4, p5⟩, p6, p7, ⟨p8, p8b, p8c, p8d⟩, p9, p10, p11, p12, p13, p14, p15⟩ := id hP
  have e6 : cI S (ar 15) (nI 6).toNatClampNeg = bI off := by rw [nI_x 6 (by decide)]; exact g12.2.2.1
  have e0 : cI S (ar 8) (nI 0).toNatClampNeg = nI (ofO pr) := by rw [nI_x 0 (by decide)]; exact g8.2.1.1
  refine ⟨3, 70, bd.1, bd.2, ?_⟩
  have no : (off = true ∨ pr = none) → k_L_isCommitted_276 (Q 3 70) dp 3 70 x 0 0 S := fun hno => by
    unfold k_L_isCommitted_276
    obtain ⟨⟨so, sd, a1⟩, a2, a3, a4, a5, a6⟩ := hC
    exact ⟨3, 70, by omega, by omega, didX_finish a1.1.1 (by omega) (x_finish a1 hno (by omega) (by omega) ⟨by omega, fun c => absurd rfl c, fun _ => ⟨by omega, hQ 3 70 S bd.1 bd.2 hk6⟩⟩)⟩
  unfold k_L_isCommitted
  rw [e6, e0]
  refine ⟨fun _ => ⟨lR_X g1 (i := 15) (by decide) (by decide), fun c => no (Or.inl (by cases off with | true => rfl | false => exact absurd c (by decide))), fun c => ⟨lR_X g1 (i := 8) (by decide) (by decide), ?_⟩⟩, fun c => absurd c (by decide)⟩
  cases off with
  | true => exact absurd rfl c
  | false =>
    cases pr with
    | none => exact ⟨fun c => absurd rfl c, fun _ => no (Or.inr rfl)⟩
    | some s0 =>
      refine ⟨fun _ => ⟨fun _ => ?_, fun c => absurd c (by decide)⟩, fun c => absurd c (by show ¬ nI 1 = 0; decide)⟩
      refine ⟨1, 64, by omega, by omega, q_L_copy (g1.1 8 (by decide)) (fun q S6 hq sub6 gq bq => ⟨⟨by omega, by omega⟩, ?_⟩)⟩
      -- the state with the copy
      have f6 := fr_new (ρ := ρ) sub6
      obtain ⟨ρ1, eρ1⟩ : ∃ ρ1, ρ1 = (fun a => if a ∈ cL S then ρ a else 90) := ⟨_, rfl⟩
      rw [← eρ1] at f6
      obtain ⟨hx, hρ⟩ := C6_x hC
      have hC6 := C6_fr f6 (by decide) hC
      have hL6 := cL6_fr f6 (by decide) hx hρ hL
      have e16 : ∀ i, i < 16 → cI S6 (ar i) = cI S (ar i) ∧ cJ S6 (ar i) = cJ S (ar i) := fun i hi => ⟨sub_cI sub6 (g1.1 i hi).1 (fun z => z), sub_cJ sub6 (g1.1 i hi).1 (fun z => z)⟩
      have gR6 : lRow S6 ar := ⟨fun i hi => ⟨sub_A1 sub6 (g1.1 i hi).1, (sub_cn sub6 (g1.1 i hi).1).trans (g1.1 i hi).2⟩, g1.2⟩
      have hT6 : tg6 ρ1 ar := fun i hi => by rw [eρ1]; show (if ar i ∈ cL S then ρ (ar i) else 90) = 90; rw [if_pos (g1.1 i hi).1.1]; exact hT i hi
      have hq90 : ρ1 q = 90 := by rw [eρ1]; exact if_neg hq
      have hqn : ∀ i, i < 16 → q ≠ ar i := fun i hi e => hq (e ▸ (g1.1 i hi).1.1)
      have hI6 := I6_eq gR6 (fun i hi => (e16 i hi).1) (fun i hi => (e16 i hi).2) hI
      obtain ⟨g1, g2, g3, g4, g5, g6, ⟨g7, g8, g9, g10⟩, g11, g12, g13⟩ := id hI6
      refine q_L_writes (g1.1 15 (by decide)) gq (g1.1 9 (by decide)) (g1.1 10 (by decide)) (hqn 15 (by decide)) (lR_ne g1 (by decide) (by decide) (by decide)) (lR_ne g1 (by decide) (by decide) (by decide)) p10 (lWn_0 g12.1 (g12.2.1 rfl)) (fun W hcc hW => ?_) (fun W hcc hW => ?_)
      · have hne : cc ≠ some 0 := fun e => absurd (hcc 0 e) (by decide)
        obtain ⟨wW0, oW, w4, w5, -⟩ := hW
        have wW : lwT S6 W ([15].map ar) := wW0
        have gW := lR_w wW g1
        refine ⟨fun c => absurd c (by decide), fun _ => ?_⟩
        refine q_comm385 (a7 := fi) gW ((oW 7 (by decide)).trans g12.2.2.2.1) (fun W2 wW2 b7 o7 v7 => ?_)
        have gW2 := lR_w wW2 gW
        unfold k_L_isCommitted_417
        rw [nI_x 0 (by decide), nI_x 7 (by decide)]
        refine ⟨lR_X gW2 (i := 8) (by decide) (by decide), fun V eV => ?_⟩
        have wV2 : lwT W2 V ([8].map ar) := eV ▸ lw_SI (by simp)
        have wV : lwT S6 V ([7, 8, 15].map ar) := lw_tr (lw_tr (lw_wk wW (fun a ha => by simp at ha ⊢; simp [ha])) wW2 (fun a ha => by simp at ha ⊢; rcases ha with e | e <;> simp [e])) wV2 (fun a ha => by simp at ha ⊢; simp [ha])
        have gV := lR_w wV g1
        have oV : rO S6 V (ar 15) [4, 5, 7] := fun j hj => by
          simp at hj
          rw [lwI gW2 wV2 15 rfl, o7 j (by simp; exact hj.2.2), oW j (by simp; exact ⟨hj.1, hj.2.1⟩)]
        have v4 : cI V (ar 15) 4 = nI (w + 1) := by rw [lwI gW2 wV2 15 rfl, o7 4 (by decide)]; exact w4
        have v5 : cI V (ar 15) 5 = cIn (cc.map (fun k => k - 1)) := by rw [lwI gW2 wV2 15 rfl, o7 5 (by decide)]; exact w5
        have vv7 : cI V (ar 15) 7 = nI (fi + 1) := by rw [lwI gW2 wV2 15 rfl]; exact v7
        have v80 : cI V (ar 8) 0 = nI 0 := by rw [eV, cSI_s]
        have vc : ∀ j, j < 64 → cI V (ar 7) j = cI S6 (ar 8) j := fun j hj => by rw [lwI gW2 wV2 7 rfl, b7 j hj, lwI g1 wW 8 rfl]
        have fV := fr_lw (ρ := ρ1) wV (tg_map hT6 rfl)
        obtain ⟨⟨so, sd, a1⟩, a2, a3, a4, a5, a6⟩ := C6_fr fV (by decide) hC6
        obtain ⟨fd, hfd⟩ := gFn_Fd a6
        have gp := g8.2.2 (show 0 < 1 by decide)
        have hm27 := g3.2.1.2
        have sM : vwM made s0 := a2.2.2.2.1 s0 rfl
        obtain ⟨w1', w2'⟩ := g11
        obtain ⟨w3', w4'⟩ := w2' s0 rfl
        have iV : I6 V ar dn made sl BL ix mg (some s0) none o1 o2 op (fi + 1) (w + 1) (cc.map (fun k => k - 1)) false H sk tk R := ⟨gV, sg_w g1 wV rfl g2, sz_w oV rfl g3, bf_w g1 wV rfl oV rfl g4, ix_w g1 wV rfl oV rfl g5, mg_w g1 wV rfl oV rfl g6, ⟨⟨gV.1 7 (by decide), ⟨(vc 0 (by decide)).trans g8.2.1.1, show 1 < 2 ^ 30 by decide⟩, fun _ => ⟨gV.1 7 (by decide), (vc 1 (by decide)).trans gp.2.1, gp.2.2.1, fun i n hi => ⟨(vc (2 + i) (by have := get_lt hi; have := gp.2.2.1; omega)).trans (gp.2.2.2.1 i n hi).1, (gp.2.2.2.1 i n hi).2⟩, fun n hn => (vc (32 + n) (by have := sM n hn; omega)).trans (gp.2.2.2.2 n hn)⟩⟩, ⟨gV.1 8 (by decide), ⟨v80, by decide⟩, fun c => absurd c (by decide)⟩, of_w 9 (by decide) ⟨rfl, rfl⟩ g1 wV rfl g9, of_w 10 (by decide) ⟨rfl, rfl⟩ g1 wV rfl g10⟩, ⟨fun n hn => by
            rw [lwI g1 wV 5 rfl, w1' n hn]
            congr 1
            refine bN_ext (fun j hj => ?_)
            show (if n ∈ s0.1 then s0.2 n j else wbs cm n j) = wbs (some s0) n j
            by_cases c : n ∈ s0.1
            · rw [if_pos c]
              unfold wbs
              rw [if_pos (show n ∈ ovL (some s0) from c)]
              rfl
            · rw [if_neg c]
              unfold wbs
              rw [if_neg (show ¬ n ∈ ovL (some s0) from c), if_neg (w4' n hn c)], fun p e => absurd e (by simp)⟩, ⟨v4, fun _ => v5, (oV 6 (by decide)).trans g12.2.2.1, vv7, (oV 8 (by decide)).trans g12.2.2.2.2⟩, fi_w g1 wV rfl oV rfl g13⟩
        refine ⟨2, 6, by omega, by omega, did_finish a1.1.1 (g_finish a1 a2 hfd p10 (by omega) (by omega) (fun T hc eT gT => ⟨by omega, fun c => absurd c (by decide), fun _ => ?_⟩) (fun U ρ' hc => absurd hc hne))⟩
        have hR : R6 (k + 1) T dp x ar (cd + 3) (dd + 70) := R6_I hL6 hC6 hT6 fV eT ⟨so, sd, gT⟩ ⟨a2.1, a2.2.1, a2.2.2.2.1, fun w e => absurd e (by simp), a2.2.2.2.2⟩ iV ⟨⟨p1, p2, p4, fun s e => absurd e (by simp), p5⟩, p6, p7, ⟨p8, p8b, p8c, by omega⟩, fun w => absurd w (by decide), cc_map p10, p11, p12, p13, p14, by omega⟩ hF (Nat.le_refl _) (fun _ _ => rfl) (by omega) (by omega)
        obtain ⟨gR, -, eI, -⟩ := I6_rows iV.1 hT6 eT.1 (by decide)
        rw [eI 15 (by decide), vv7]
        refine ⟨lR_X gR (i := 15) (by decide) (by decide), ?_⟩
        unfold k_L_isCommitted_442
        exact ⟨fun c => absurd rfl c, fun _ => ⟨by omega, hQ 3 70 T bd.1 bd.2 hR⟩⟩
      · obtain ⟨wW, oW, hm, q0', q9, q10⟩ := hW
        refine ⟨fun _ => ?_, fun c => absurd rfl c⟩
        have nW : ∀ i, i < 16 → i ≠ 15 → i ≠ 9 → i ≠ 10 → ar i ∉ [ar 15, q, ar 9, ar 10] := fun i hi h1 h2 h3 c => by
          simp only [List.mem_cons, List.not_mem_nil, or_false] at c
          rcases c with c | c | c | c
          · exact h1 (g1.2 _ _ hi (by decide) c)
          · exact hqn i hi c.symm
          · exact h2 (g1.2 _ _ hi (by decide) c)
          · exact h3 (g1.2 _ _ hi (by decide) c)
        have gW := lR_w wW g1
        unfold k_L_isCommitted_417
        rw [nI_x 0 (by decide)]
        refine ⟨lR_X gW (i := 8) (by decide) (by decide), fun V eV => ?_⟩
        have wV2 : lwT W V ([8].map ar) := eV ▸ lw_SI (by simp)
        have gV := lR_w wV2 gW
        have wV : lwT S6 V [ar 15, q, ar 9, ar 10, ar 8] := lw_tr (lw_wk wW (fun a ha => by simp at ha ⊢; rcases ha with e | e | e | e <;> simp [e])) wV2 (fun a ha => by simp at ha ⊢; simp [ha])
        have fV := fr_lw (ρ := ρ1) wV (fun a ha => by
          simp only [List.mem_cons, List.not_mem_nil, or_false] at ha
          rcases ha with rfl | rfl | rfl | rfl | rfl
          · exact hT6 15 (by decide)
          · exact hq90
          · exact hT6 9 (by decide)
          · exact hT6 10 (by decide)
          · exact hT6 8 (by decide))
        obtain ⟨⟨so, sd, a1⟩, a2, a3, a4, a5, a6⟩ := C6_fr fV (by decide) hC6
        obtain ⟨fd, hfd⟩ := gFn_Fd a6
        have iV : I6 V ar dn made sl [] ([], ix.2) none cm none none none op fi (w + 0) none true [] 0 0 [] := I6_Dp g1 g2 g3 g7 g12.2.2.2 gV ⟨by rw [lwJ gW wV2 0 rfl, lw_J wW (nW 0 (by decide) (by decide) (by decide) (by decide))], by rw [lwJ gW wV2 2 rfl, lw_J wW (nW 2 (by decide) (by decide) (by decide) (by decide))]⟩ ⟨by rw [lwI gW wV2 3 rfl, lw_I wW (nW 3 (by decide) (by decide) (by decide) (by decide))], by rw [lwI gW wV2 7 rfl, lw_I wW (nW 7 (by decide) (by decide) (by decide) (by decide))]⟩ (by rw [show rO S6 V (ar 15) [1, 3, 4, 5, 6, 9, 13, 14, 15, 16] ↔ rO S6 W (ar 15) [1, 3, 4, 5, 6, 9, 13, 14, 15, 16] by unfold rO; rw [lwI gW wV2 15 rfl]]; exact oW) (by rw [lwI gW wV2 15 rfl]; exact hm) (by rw [eV, cSI_s]) (by rw [lwI gW wV2 9 rfl]; exact q9) (by rw [lwI gW wV2 10 rfl]; exact q10)
        refine ⟨2, 6, by omega, by omega, did_finish a1.1.1 (g_finish a1 a2 hfd p10 (by omega) (by omega) (fun T hc => absurd hcc hc) (fun U ρ' hc dT => ⟨by omega, fun _ => ?_, fun c => absurd rfl c⟩))⟩
        unfold k_L_isCommitted_442
        exact ⟨fun c => absurd rfl c, fun _ => ⟨by omega, hQ 3 70 U bd.1 bd.2 (R6_D (sl' := sl) (lv' := ix.2) (w' := w + 0) hL6 hC6 hT6 fV hfd (dn_ev dT) ⟨so, sd, dn_gIx a1 a2 dT⟩ a2.2.2.1 iV (pI_D hP) hF (by omega) (by omega))⟩⟩
end LZD
