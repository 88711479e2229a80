/-! both worlds together: finish, flush -/
section CASI
variable {S T U S8 : cS} {v v' : Nat → Int32} {f f' : Nat → Nat → Int32} {g g' : Nat → Nat → Int64} {dp x out k cd dd L : Nat} {x4 : Int32} {xs : Nat → Int32} {R : Int32 → Nat → Nat → cS → (Nat → Int32) → (Nat → Nat → Int32) → (Nat → Nat → Int64) → Prop}
theorem p_finishX {Q : QI} (h98 : v 98 = bI true) (hX : Q (nI 0) (upd v 99 (nI 1)) f g) : r_finish Q v f g := by
  unfold r_finish r_finish_19 r_finish_20
  rw [h98]
  exact ⟨fun _ => goF (b1 := false) ⟨fun c => absurd rfl c, fun _ => hX⟩, fun w => absurd w (by decide)⟩
theorem p_flushX {Q : QI} (h98 : v 98 = bI true) (hX : Q (nI 0) (upd v 99 (nI 1)) f g) : r_flush Q v f g := by
  unfold r_flush r_flush_22 r_flush_23
  rw [h98]
  exact ⟨fun _ => goF (b1 := false) ⟨fun _ => hX, fun c => absurd rfl c⟩, fun w => absurd w (by decide)⟩
theorem p_flushY {Q : QI} {made : Nat} (h98 : v 98 = bI false) (h29 : v 29 = nI made) (hm : 200 ≤ made) (hb : made ≤ 201) (hX : Q (nI 0) (upd v 99 (nI 1)) f g) : r_flush Q v f g := by
  unfold r_flush r_flush_22 r_flush_23
  rw [h98, h29]
  exact ⟨fun w => absurd rfl w, fun _ => pk_le 200 made (fun _ => goF (b1 := false) ⟨fun _ => hX, fun c => absurd rfl c⟩) (fun z => absurd z (by omega))⟩
theorem cc_map {cc : Option Nat} {q : Nat} (h : ∀ j, cc = some j → j ≤ 1000) : ∀ j, cc.map (fun k => k - q) = some j → j ≤ 1000 := fun j e => by
  cases cc with
  | none => exact absurd e (by simp)
  | some c =>
    have := h c rfl
    have e2 : c - q = j := Option.some.inj e
    omega
theorem lc_14 (hI : Rel k S dp x out v f g cd dd) (hk : k < 512) (hN : nxR R k dp x out x4) : lw_c14 R xs L dp x out x4 cd dd S v f g := by
  unfold lw_c14
  have hx6 := Rel_x (t := nI 1) (mc := 1) (ms := 6) (by decide) (by decide) hI
  have bd := Rel_bd (by omega) hx6
  have bd0 := Rel_bd (by omega) hI
  obtain ⟨ρ, WL, n, P, ks, A, yn, F, G, ad, c0, c1, n0, P0, n1, P1, hl, hr⟩ := id hI
  obtain ⟨o, so, sd, sg, made, B, ix, mg, cm, pr, sn, op, fi, w, cc, off, dn, hd, sl, m, nd, qs, w0, w1, H, sk, tk, CL, u, RR, ⟨a1, a2⟩, ⟨a3, a4⟩, ⟨a5, a6⟩, a7, a8, a9, b1, b2, b3, b7, b8⟩ := id hr
  obtain ⟨⟨i98, i97, i96, i39, i48⟩, iB, iS, iX, iM, iC, iP, iK, iZ, iW⟩ := id a7
  obtain ⟨⟨p1, p2, p3, p4, p5⟩, p6, p7, ⟨p8, p8b, p8c, p8d⟩, p9, p10, p11, p12, p13, p14⟩ := id b1
  have bd2 := Rest_bd (mc := 2) (ms := 6) hk (by decide) (by decide) hr
  have hx20 := Rel_x (t := nI 1) (mc := 2) (ms := 6) (by decide) (by decide) hI
  have hsz : ∀ n, n < made → n < 202 ∧ (sg n).length ≤ 100 := fun n hn => ⟨by have := p14.1; omega, (iS.2.2 n hn).2.1⟩
  refine ⟨2, 6, bd2, ?_⟩
  unfold kw_L_finish
  cases off with
  | true =>
    refine ⟨hl.1.1, Or.inr ⟨2, 6, by omega, x_finish a1 (Or.inl rfl) (by omega) (by omega) ⟨by omega, bd2, ?_⟩⟩⟩
    exact p_finishX i98 (tl_x (by decide) bd2 upd_at (hN _ _ _ _ _ _ hx20))
  | false =>
    have i97 := i97 rfl
    cases pr with
    | none =>
      refine ⟨hl.1.1, Or.inr ⟨2, 6, by omega, x_finish a1 (Or.inr rfl) (by omega) (by omega) ⟨by omega, bd2, ?_⟩⟩⟩
      exact p_finish i98 i97 i96 i39 p10 iP iZ.2.2.2.2 hsz (fun _ => tl_x (by decide) bd2 upd_at (hN _ _ _ _ _ _ hx20)) (fun s v' f' _ e => absurd e (by simp)) (fun s v' f' _ e => absurd e (by simp))
    | some s0 =>
      obtain ⟨fd, hfd⟩ := gFn_Fd a6
      refine ⟨hl.1.1, Or.inl ⟨2, 6, by omega, by omega, g_finish a1 a2 hfd p10 (by omega) (by omega) (fun T hc eT gT => cls_out (by omega) (out_fr eT.1 (by decide) o) (fun S8 f90 o8 j8 => ⟨bd2, ?_⟩)) (fun T ρ' hc dT => cls_out (by omega) (out_fr (dn_ev dT).1 (by decide) o) (fun S8 f90 o8 j8 => ⟨bd2, ?_⟩))⟩⟩
      · refine p_finish i98 i97 i96 i39 p10 iP iZ.2.2.2.2 hsz (fun w => ?_) (fun s v' f' _ _ w => absurd w hc) (fun s v' f' _ e _ hF h99 h96 h97 h39 h40 hC hz => ?_)
        · rcases w with w | w
          · exact absurd w (by decide)
          · exact absurd w (by simp)
        obtain rfl := Option.some.inj e
        obtain ⟨w1', w2'⟩ := iW
        obtain ⟨w3', w4'⟩ := w2' s0 rfl
        have hrel : Rel (k + 1) S8 dp x out v' f' g (cd + 2) (dd + 6) := Rel_I (cm' := some s0) (pr' := none) (fi' := fi + 1) (w' := w + 1) (cc' := cc.map (fun k => k - 1)) hl a3 a4 a5 a6 a8 a9 b2 b3 eT gT ⟨a2.1, a2.2.1, a2.2.2.2.1, fun w e => absurd e (by simp), a2.2.2.2.2⟩ f90 o8 hF (by decide) (by decide) (by decide) ⟨⟨by rw [hF.1 98 (by decide)]; exact i98, fun _ => h97, h96, h39, by rw [hF.1 48 (by decide)]; exact i48⟩, rB_f hF (by decide) (by decide) (by decide) iB, rS_f hF (by decide) (by decide) (by decide) iS, rX_f hF (by decide) (by decide) iX, rM_f hF (by decide) (by decide) iM, hC, ⟨h40, fun s e => absurd e (by simp)⟩, rK_f hF (by decide) iK, ⟨rZ_f hF (by decide) iZ.1, rZ_f hF (by decide) iZ.2.1, rZ_f hF (by decide) iZ.2.2.1, hz, rZ_f hF (by decide) iZ.2.2.2.2⟩, ⟨fun n hn j hj => by
            rw [hF.2.1 22 (by decide), w1' n hn j hj]
            show bI (if n ∈ s0.1 then s0.2 n j else wbs cm n j) = bI (wbs (some s0) n j)
            unfold wbs
            show bI (if n ∈ s0.1 then s0.2 n j else if n ∈ ovL cm then (cmV cm).2 n j else true) = bI (if n ∈ s0.1 then s0.2 n j else true)
            by_cases c : n ∈ s0.1
            · rw [if_pos c, if_pos c]
            · rw [if_neg c, if_neg c, if_neg (w4' n hn c)], fun p e => absurd e (by simp)⟩⟩ ⟨⟨p1, p2, fun s e => by rw [← Option.some.inj e]; exact p4 s0 rfl, fun s e => absurd e (by simp), p5⟩, p6, p7, ⟨p8, p8b, p8c, by omega⟩, fun w => absurd w (by decide), cc_map p10, p11, p12, p13, p14.1, by have := p14.2; omega⟩ (fun _ _ => rfl) (Nat.le_refl _) (by omega) (by omega)
        exact tl_ok bd2 h99 (out_X o8) j8 (hN _ _ _ _ _ _ hrel)
      · refine p_finish i98 i97 i96 i39 p10 iP iZ.2.2.2.2 hsz (fun w => ?_) (fun s v' f' _ e _ hF h99 hD => ?_) (fun s v' f' _ _ w => absurd hc w)
        · rcases w with w | w
          · exact absurd w (by decide)
          · exact absurd w (by simp)
        have hrel : Rel (k + 1) S8 dp x out v' f' g (cd + 2) (dd + 6) := Rel_D hl a3 a4 a5 a6 a8 a9 b2 b3 hfd (dn_ev dT) (dn_gIx a1 a2 dT) a2.2.2.1 f90 o8 hF (by decide) (by decide) (by decide) hD (by rw [hF.1 96 (by decide)]; exact i96) (by rw [hF.1 39 (by decide)]; exact i39) (by rw [hF.1 48 (by decide)]; exact i48) (rS_f hF (by decide) (by decide) (by decide) iS) (rC_f hF (by decide) (by decide) iC) (rZ_f hF (by decide) iZ.1) (rZ_f hF (by decide) iZ.2.1) (rZ_f hF (by decide) iZ.2.2.1) iZ.2.2.2.1 iZ.2.2.2.2 p3 (by omega) (fun z => (p11 z).2) p12.1 p13 ⟨p14.1, by have := p14.2; omega⟩ (by omega) (by omega)
        exact tl_ok bd2 h99 (out_X o8) j8 (hN _ _ _ _ _ _ hrel)
theorem lc_8 (hI : Rel k S dp x out v f g cd dd) (hk : k < 512) (hN : nxR R k dp x out x4) : lw_c8 R xs L dp x out x4 cd dd S v f g := by
  unfold lw_c8
  have hx6 := Rel_x (t := nI 1) (mc := 1) (ms := 6) (by decide) (by decide) hI
  have bd := Rel_bd (by omega) hx6
  have bd0 := Rel_bd (by omega) hI
  obtain ⟨ρ, WL, n, P, ks, A, yn, F, G, ad, c0, c1, n0, P0, n1, P1, hl, hr⟩ := id hI
  obtain ⟨o, so, sd, sg, made, B, ix, mg, cm, pr, sn, op, fi, w, cc, off, dn, hd, sl, m, nd, qs, w0, w1, H, sk, tk, CL, u, RR, ⟨a1, a2⟩, ⟨a3, a4⟩, ⟨a5, a6⟩, a7, a8, a9, b1, b2, b3, b7, b8⟩ := id hr
  obtain ⟨⟨i98, i97, i96, i39, i48⟩, iB, iS, iX, iM, iC, iP, iK, iZ, iW⟩ := id a7
  obtain ⟨⟨p1, p2, p3, p4, p5⟩, p6, p7, ⟨p8, p8b, p8c, p8d⟩, p9, p10, p11, p12, p13, p14⟩ := id b1
  have idl : ix.1.length ≤ made := by
    have := nd_len (m := List.range made) p1.1 (fun n hn => List.mem_range.mpr (a2.1 n hn))
    rwa [List.length_range] at this
  cases off with
  | true =>
    refine ⟨1, 6, bd, ?_⟩
    unfold kw_L_flush
    refine ⟨hl.1.1, Or.inr ⟨1, 6, by omega, x_flush a1 (Or.inl rfl) (by have := p14.1; omega) (by omega) (by omega) ⟨by omega, bd, ?_⟩⟩⟩
    exact p_flushX i98 (tl_x (by decide) bd upd_at (hN _ _ _ _ _ _ hx6))
  | false =>
    have i97 := i97 rfl
    rcases Nat.lt_or_ge made 200 with h200 | h200
    · have bd2 : cd + (610 * B.length + 30) ≤ 601024 ∧ dd + (7000 * B.length + 1200) ≤ 7293033 := by omega
      refine ⟨610 * B.length + 30, 7000 * B.length + 1200, bd2, ?_⟩
      unfold kw_L_flush
      obtain ⟨fd, hfd⟩ := gFn_Fd a6
      have sgo : ∀ n, n < made → upR sg made B n = sg n := fun n hn => upR_n (by omega)
      refine ⟨hl.1.1, Or.inl ⟨610 * B.length + 30, 7000 * B.length + 1200, by omega, by omega, g_flushO a1 a2 hfd p10 h200 (by omega) (Nat.le_refl _) (Nat.le_refl _) (fun hB => cls_out (by omega) o (fun S8 f90 o8 j8 => ⟨bd2, ?_⟩)) (fun T ρ' A' ds hB hk1 eT gT => cls_out (by omega) (out_fr eT.1 (by decide) o) (fun S8 f90 o8 j8 => ⟨bd2, ?_⟩)) (fun T ρ' j hB hj hcj dT => cls_out (by omega) (out_fr (dn_ev dT).1 (by decide) o) (fun S8 f90 o8 j8 => ⟨bd2, ?_⟩))⟩⟩
      · refine p_flush i98 i97 i96 p10 iB iS iX (fun _ => by omega) (fun w => ?_) (fun _ _ => ?_) (fun j v' f' _ w => absurd hB w) (fun v' f' g' _ w => absurd hB w)
        · rcases w with w | w
          · exact absurd w (by decide)
          · omega
        subst hB
        have hrel : Rel (k + 1) S8 dp x out (upd v 99 (nI 0)) f g (cd + 30) (dd + 1200) := Rel_R hl hr f90 (by decide) o8 rF_99u (by decide) (by decide) (by decide) (by decide) (by decide)
        exact tl_ok bd2 upd_at (out_X o8) j8 (hN _ _ _ _ _ _ hrel)
      · refine p_flush i98 i97 i96 p10 iB iS iX (fun _ => by omega) (fun w => ?_) (fun _ w => absurd w hB) (fun j v' f' _ _ hj hcj => ?_) (fun v' f' g' _ _ hlt hF hz1 hz2 h99 h96 h97 h20 hs' hX' h22 hold => ?_)
        · rcases w with w | w
          · exact absurd w (by decide)
          · omega
        · have := hk1 j hcj; omega
        have l100 : ∀ n, n < made → (sg n).length ≤ 100 := fun n hn => (iS.2.2 n hn).2.1
        obtain ⟨w1', w2'⟩ := iW
        have nm : ∀ s : Vw, vwM made s → made ∉ s.1 := fun s hs hin => absurd (hs _ hin) (Nat.lt_irrefl _)
        have ncm : made ∉ ovL cm := by
          cases cm with
          | none => exact List.not_mem_nil
          | some s => exact nm s (a2.2.2.1 s rfl)
        have lift : ∀ {s : Vw}, vwM made s → vwM (made + 1) s := fun h n hn => by have := h n hn; omega
        have vx : ∀ {s : Vw}, vwM made s → vG sg s → vG (upR sg made B) s := fun h q => vG_ext (fun n hn => sgo n (h n hn)) q
        have sB : upR sg made B made = B := upR_s
        have h12 : B.length ≤ 12 := iB.2.1
        have hrel : Rel (k + 1) S8 dp x out v' f' g' (cd + (610 * B.length + 30)) (dd + (7000 * B.length + 1200)) := by
          refine Rel_I (so' := upR so made A') (sd' := upR sd made ds) (sg' := upR sg made B) (made' := made + 1) (B' := []) (ix' := (ix.1 ++ [made], lvF made ix.2)) (sn' := sn) (sl' := sl) (dn' := dn + B.length) (hd' := hdF made dn hd) (w' := w + (B.length + 1)) (cc' := cc.map (fun k => k - (B.length + 1))) hl a3 a4 a5 a6 a8 a9 b2 b3 eT gT ⟨fun n hn => ?_, fun s e => lift (a2.2.1 s e), fun s e => lift (a2.2.2.1 s e), fun s e => lift (a2.2.2.2.1 s e), fun s hs => lift (a2.2.2.2.2 s hs)⟩ f90 o8 hF (by decide) (by decide) (by decide) ⟨⟨by rw [hF.1 98 (by decide)]; exact i98, fun _ => h97, h96, by rw [hF.1 39 (by decide)]; exact i39, by rw [hF.1 48 (by decide)]; exact i48⟩, ⟨h20, by show (0 : Nat) ≤ 12; omega, fun k d hk => absurd (get_lt hk) (Nat.not_lt_zero k)⟩, hs', hX', rMg_up (rM_f hF (by decide) (by decide) iM) (fun s c e n hn => sgo n (a2.2.1 s (by rw [e]; rfl) n hn)), rOv_up (rC_f hF (by decide) (by decide) iC) (by omega) sgo, rOv_up (rP_f hF (by decide) (by decide) iP) (by omega) sgo, rLk_up (rK_f hF (by decide) iK) (by omega) sgo, ⟨fun c hc => hz1 c (iZ.1 c hc), fun c hc => hz2 c (iZ.2.1 c hc), rZ_f hF (by decide) iZ.2.2.1, rZ_f hF (by decide) iZ.2.2.2.1, rZ_f hF (by decide) iZ.2.2.2.2⟩, ⟨fun n hn j hj => ?_, fun p e => ⟨fun n hn j hj => ?_, fun n hn hnp => ?_⟩⟩⟩ ⟨⟨⟨?_, fun key => ?_⟩, fun s c e => vx (a2.2.1 s (by rw [e]; rfl)) (p2 s c e), fun s e => vx (a2.2.2.1 s e) (p3 s e), fun s e => vx (a2.2.2.2.1 s e) (p4 s e), fun s hs => vx (a2.2.2.2.2 s hs) (p5 s hs)⟩, ⟨fun i i' d d' hi => absurd (get_lt hi) (Nat.not_lt_zero i), fun d hd => absurd hd List.not_mem_nil⟩, fun s c e => ?_, ⟨p8, p8b, p8c, by omega⟩, fun w => absurd w (by decide), cc_map p10, fun z => absurd (p11 z).1 hB, ⟨fun n hn d hd => ?_, fun d hd => absurd hd List.not_mem_nil⟩, p13, by omega, ?_⟩ sgo (by omega) ?_ ?_
          · rcases List.mem_append.mp hn with h | h
            · have := a2.1 n h; omega
            · rw [List.mem_singleton.mp h]; omega
          · rcases List.mem_append.mp hn with h | h
            · have hlt' := a2.1 n h
              rw [sgo n hlt'] at hj
              have := l100 n hlt'
              rw [(hold (100 * n + j) (by omega)).2]
              exact w1' n h j hj
            · rw [List.mem_singleton.mp h] at hj ⊢
              rw [sB] at hj
              rw [h22 j hj]
              cases pr with
              | none => show bI true = bI (wbs cm made j); unfold wbs; rw [if_neg ncm]
              | some p => show bI true = bI (if made ∈ p.1 then p.2 made j else wbs cm made j); rw [if_neg (nm p (a2.2.2.2.1 p rfl))]; unfold wbs; rw [if_neg ncm]
          · rw [sgo n (a2.2.2.2.1 p e n hn)] at hj
            rw [hF.2.1 23 (by decide)]
            exact (w2' p e).1 n hn j hj
          · rcases List.mem_append.mp hn with h | h
            · exact (w2' p e).2 n h hnp
            · rw [List.mem_singleton.mp h]; exact ncm
          · refine List.nodup_append.mpr ⟨p1.1, List.nodup_cons.mpr ⟨List.not_mem_nil, List.nodup_nil⟩, fun a ha b hb e => ?_⟩
            have := a2.1 a ha
            rw [e, List.mem_singleton.mp hb] at this
            omega
          · intro n j d n' j' d' h1 h2 h3 h4 h5 h6 h7 h8
            have h5 : lvF made ix.2 n j = true := h5
            have h6 : lvF made ix.2 n' j' = true := h6
            rcases List.mem_append.mp h1 with h1 | h1 <;> rcases List.mem_append.mp h2 with h2 | h2
            · have := a2.1 n h1
              have := a2.1 n' h2
              rw [sgo n (by omega)] at h3
              rw [sgo n' (by omega)] at h4
              rw [show lvF made ix.2 n j = ix.2 n j from if_neg (by omega)] at h5
              rw [show lvF made ix.2 n' j' = ix.2 n' j' from if_neg (by omega)] at h6
              exact p1.2 key n j d n' j' d' h1 h2 h3 h4 h5 h6 h7 h8
            · have := a2.1 n h1
              rw [List.mem_singleton.mp h2] at h4
              rw [sgo n (by omega)] at h3
              rw [sB] at h4
              rw [show lvF made ix.2 n j = ix.2 n j from if_neg (by omega)] at h5
              exact absurd (h7.trans h8.symm) (p6.2 d' (List.mem_of_getElem? h4) n j d h1 h3 h5)
            · have := a2.1 n' h2
              rw [List.mem_singleton.mp h1] at h3
              rw [sgo n' (by omega)] at h4
              rw [sB] at h3
              rw [show lvF made ix.2 n' j' = ix.2 n' j' from if_neg (by omega)] at h6
              exact absurd (h8.trans h7.symm) (p6.2 d (List.mem_of_getElem? h3) n' j' d' h2 h4 h6)
            · rw [List.mem_singleton.mp h1] at h3 ⊢
              rw [List.mem_singleton.mp h2] at h4 ⊢
              rw [sB] at h3 h4
              exact ⟨rfl, p6.1 j j' d d' h3 h4 (h7.trans h8.symm)⟩
          · obtain ⟨p, q1, q2, q3, q4⟩ := p7 s c e
            refine ⟨p, by rw [List.length_append]; omega, q2, fun a n hn => ?_, ?_, by omega⟩
            · have h := q3 a n hn
              rw [List.getElem?_append_left (get_lt h)]; exact h
            · rw [mtL_ext (fun n hn => sgo n (a2.2.1 s (by rw [e]; rfl) n hn))]; exact q4.1
          · rcases Nat.lt_or_ge n made with z | z
            · rw [sgo n z] at hd
              exact p12.1 n z d hd
            · rw [show n = made by omega, sB] at hd
              exact p12.2 d hd
          · have e1 : smN (fun n => (upR sg made B n).length) (made + 1) = smN (fun n => (sg n).length) made + B.length := by
              rw [smN, sB]
              congr 1
              exact smN_ext (fun n hn => by rw [sgo n hn])
            show smN (fun n => (upR sg made B n).length) (made + 1) + 0 + mgC mg ≤ k + 1
            rw [e1]
            have := p14.2
            omega
          · show _ + 610 * (0 + mgC mg) ≤ _; omega
          · show _ + 7000 * (0 + mgC mg) ≤ _; omega
        exact tl_ok bd2 h99 (out_X o8) j8 (hN _ _ _ _ _ _ hrel)
      · refine p_flush i98 i97 i96 p10 iB iS iX (fun _ => by omega) (fun w => ?_) (fun _ w => absurd w hB) (fun j' v' f' _ _ hj' hcj' hF h99 h96 h97 hD => ?_) (fun v' f' g' _ _ hlt => ?_)
        · rcases w with w | w
          · exact absurd w (by decide)
          · omega
        · rw [hcj] at hcj'
          obtain rfl := Option.some.inj hcj'
          have hrel : Rel (k + 1) S8 dp x out v' f' g (cd + (610 * B.length + 30)) (dd + (7000 * B.length + 1200)) := Rel_D hl a3 a4 a5 a6 a8 a9 b2 b3 hfd (dn_ev dT) (dn_gIx a1 a2 dT) a2.2.2.1 f90 o8 hF (by decide) (by decide) (by decide) hD h96 (by rw [hF.1 39 (by decide)]; exact i39) (by rw [hF.1 48 (by decide)]; exact i48) (rS_f hF (by decide) (by decide) (by decide) iS) (rC_f hF (by decide) (by decide) iC) (rZ_f hF (by decide) iZ.1) (rZ_f hF (by decide) iZ.2.1) (rZ_f hF (by decide) iZ.2.2.1) iZ.2.2.2.1 iZ.2.2.2.2 p3 (by omega) (fun z => (p11 z).2) p12.1 p13 ⟨p14.1, by have := p14.2; omega⟩ (by omega) (by omega)
          exact tl_ok bd2 h99 (out_X o8) j8 (hN _ _ _ _ _ _ hrel)
        · have := hlt j hcj; omega
    · refine ⟨1, 6, bd, ?_⟩
      unfold kw_L_flush
      refine ⟨hl.1.1, Or.inr ⟨1, 6, by omega, x_flush a1 (Or.inr h200) (by have := p14.1; omega) (by omega) (by omega) ⟨by omega, bd, ?_⟩⟩⟩
      exact p_flushY i98 iS.1.1 h200 iS.1.2 (tl_x (by decide) bd upd_at (hN _ _ _ _ _ _ hx6))
end CASI
