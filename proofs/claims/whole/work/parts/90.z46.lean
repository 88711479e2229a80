/-! both worlds together: look -/
theorem fm_ext {α : Type} {p q : Nat → Option α} : ∀ {l : List Nat}, (∀ a, a ∈ l → p a = q a) → l.filterMap p = l.filterMap q
  | [], _ => rfl
  | a :: l, h => by
    rw [List.filterMap_cons, List.filterMap_cons, h a List.mem_cons_self, fm_ext (l := l) (fun b hb => h b (List.mem_cons_of_mem _ hb))]
theorem fm_up {α : Type} {sl : Nat → Option α} {a : Nat} {z : α} (hn : sl a = none) : ∀ {l : List Nat}, l.Nodup → a ∈ l → (l.filterMap (upR sl a (some z))).Perm (z :: l.filterMap sl)
  | [], _, h => absurd h List.not_mem_nil
  | b :: l, hd, h => by
    obtain ⟨h1, h2⟩ := List.nodup_cons.mp hd
    by_cases c : b = a
    · subst c
      have e : l.filterMap (upR sl b (some z)) = l.filterMap sl := by
        exact fm_ext (fun q hq => upR_n (fun e => h1 (e ▸ hq)))
      rw [List.filterMap_cons, List.filterMap_cons, upR_s, hn, e]
    · have ha : a ∈ l := by
        rcases List.mem_cons.mp h with w | w
        · exact absurd w.symm c
        · exact w
      have ih := fm_up (z := z) hn h2 ha
      rw [List.filterMap_cons, List.filterMap_cons, upR_n c]
      cases sl b with
      | none => exact ih
      | some y => exact (List.Perm.cons y ih).trans (List.Perm.swap z y _)
theorem fm_full {α : Type} {sl : Nat → Option α} : ∀ {l : List Nat}, (l.filterMap sl).length ≤ l.length ∧ ((l.filterMap sl).length = l.length → ∀ a, a ∈ l → sl a ≠ none)
  | [] => ⟨Nat.le_refl _, fun _ a h => absurd h List.not_mem_nil⟩
  | b :: l => by
    obtain ⟨h1, h2⟩ := fm_full (sl := sl) (l := l)
    rw [List.filterMap_cons]
    cases e : sl b with
    | none =>
      refine ⟨by show (l.filterMap sl).length ≤ l.length + 1; omega, fun w => ?_⟩
      have w : (l.filterMap sl).length = l.length + 1 := w
      omega
    | some y =>
      refine ⟨by show (l.filterMap sl).length + 1 ≤ l.length + 1; omega, fun w a ha => ?_⟩
      have w : (l.filterMap sl).length + 1 = l.length + 1 := w
      rcases List.mem_cons.mp ha with rfl | ha
      · rw [e]; simp
      · exact h2 (by omega) a ha
theorem fm_all {α : Type} {sl : Nat → Option α} : ∀ {l : List Nat}, (∀ a, a ∈ l → sl a ≠ none) → (l.filterMap sl).length = l.length
  | [], _ => rfl
  | b :: l, h => by
    have ih := fm_all (sl := sl) (l := l) (fun a ha => h a (List.mem_cons_of_mem _ ha))
    rw [List.filterMap_cons]
    cases e : sl b with
    | none => exact absurd e (h b List.mem_cons_self)
    | some y => show (l.filterMap sl).length + 1 = l.length + 1; rw [ih]
section CASO
variable {S T U S8 : cS} {v v' : Nat → Int32} {f f' : Nat → Nat → Int32} {g g' : Nat → Nat → Int64} {dp x out k cd dd L : Nat} {x4 : Int32} {xs : Nat → Int32} {R : Int32 → Nat → Nat → cS → (Nat → Int32) → (Nat → Nat → Int32) → (Nat → Nat → Int64) → Prop}
theorem lc_31 (hI : Rel k S dp x out v f g cd dd) (hk : k < 512) (hx4 : x4 = nI (6 * k)) (hL : 6 * k + 6 ≤ L) (hL2 : L ≤ 3072) (hN : nxR R k dp x out x4) : lw_c31 R xs L dp x out x4 cd dd S v f g := by
  have vp1 := vp6 hx4 hL hL2 (show 1 < 6 by decide)
  unfold lw_c31
  obtain ⟨y1, ey1⟩ : ∃ y1, y1 = xs (x4 + nI 1).toNatClampNeg := ⟨_, rfl⟩
  rw [← ey1]
  have hx6 := Rel_x (t := nI 1) (mc := 1) (ms := 6) (by decide) (by decide) hI
  have bd := Rel_bd (by omega) hx6
  have bd0 := Rel_bd (by omega) hI
  obtain ⟨ρ, WL, n, P, ks, A, yn, F, G, ad, c0, c1, n0, P0, n1, P1, hl, hr⟩ := id hI
  obtain ⟨o, so, sd, sg, made, B, ix, mg, cm, pr, sn, op, fi, w, cc, off, dn, hd, sl, m, nd, qs, w0, w1, H, sk, tk, CL, u, RR, ⟨a1, a2⟩, ⟨a3, a4⟩, ⟨a5, a6⟩, a7, a8, a9, b1, b2, b3, b7, b8⟩ := id hr
  obtain ⟨⟨i98, i97, i96, i39, i48⟩, iB, iS, iX, iM, iC, iP, iK, iZ, iW⟩ := id a7
  obtain ⟨⟨p1, p2, p3, p4, p5⟩, p6, p7, ⟨p8, p8b, p8c, p8d⟩, p9, p10, p11, p12, p13, p14⟩ := id b1
  have bd2 := Rest_bd (mc := 610) (ms := 2200) hk (by decide) (by decide) hr
  have hx20 := Rel_x (t := nI 1) (mc := 610) (ms := 2200) (by decide) (by decide) hI
  have p142 := p14.2
  have i200 := iX.2.1
  have full : (∀ a, a < 5 → sl a ≠ none) ↔ 5 ≤ sn.length := by
    rw [p8.length_eq]
    constructor
    · intro h
      rw [fm_all (fun a ha => h a (List.mem_range.mp ha)), List.length_range]
      exact Nat.le_refl _
    · intro h a ha
      have := (fm_full (sl := sl) (l := List.range 5))
      rw [List.length_range] at this
      exact this.2 (by omega) a (List.mem_range.mpr ha)
  have gC : vG sg (cmV cm) ∧ (cmV cm).1.length ≤ 200 ∧ vwM made (cmV cm) := by
    cases cm with
    | none => exact ⟨⟨List.nodup_nil, fun key n j d n' j' d' h => absurd h List.not_mem_nil⟩, Nat.zero_le _, fun n hn => absurd hn List.not_mem_nil⟩
    | some s => exact ⟨p3 s rfl, (iC.2 s rfl).2.1, a2.2.2.1 s rfl⟩
  have hs1 := sumL_smN (F := fun n => (sg n).length) gC.1.1 gC.2.2
  have hs2 := sumL_smN (F := fun n => (sg n).length) p1.1 a2.1
  have thr : ∀ b : Bool, (off = true ∨ ∀ a, a < 5 → sl a ≠ none) → r_look (fun r_4 v_4 f_4 g_4 => (cd + 610 ≤ 601024 ∧ dd + 2200 ≤ 7293033) ∧ (r_thrown (fun r_5 v_5 f_5 g_5 => r_5 = nI 1 ∧ (((¬ nI 1 = 0 → lw_tail R x4 (cd + 610) (dd + 2200) S v_5 f_5 g_5) ∧ (nI 1 = 0 → cX S out 15 ((nI 0)) ∧ ((cJ S out ((nI 0)).toNatClampNeg) = ((r_4).toInt64) ∧ (lw_tail R x4 (cd + 610) (dd + 2200) S v_5 f_5 g_5)))))) v_4 f_4 g_4)) (bI b) v f g := fun b hy => by
    refine p_look i98 iS iX iC iK i48 (by omega) (fun _ => tl_x (by decide) bd2 upd_at (hN _ _ _ _ _ _ hx20)) (fun a v' f' e0 ha hsl => ?_)
    rcases hy with hy | hy
    · rw [hy] at e0; exact absurd e0 (by decide)
    · exact absurd hsl (hy a ha)
  have yes : ∀ b : Bool, off = false → ¬ 5 ≤ sn.length → ∀ (T : cS) (ρ' : Nat → Nat) (S8 : cS), evI S T ρ ρ' x → gIx T ρ' dp x so sd sg made B ix mg cm pr (sn ++ [(op, if b = true then ix else cmV cm)]) (op + 1) fi w cc false → fr T S8 ρ' ρ' [90] → (cA S8 out 15 ∧ cn S8 out = 1 ∧ ρ' out = 90) → cJ S8 out (nI 0).toNatClampNeg = (nI op).toInt64 → r_look (fun r_4 v_4 f_4 g_4 => (cd + 610 ≤ 601024 ∧ dd + 2200 ≤ 7293033) ∧ (r_thrown (fun r_5 v_5 f_5 g_5 => r_5 = nI 0 ∧ (((¬ nI 0 = 0 → lw_tail R x4 (cd + 610) (dd + 2200) S8 v_5 f_5 g_5) ∧ (nI 0 = 0 → cX S8 out 15 ((nI 0)) ∧ ((cJ S8 out ((nI 0)).toNatClampNeg) = ((r_4).toInt64) ∧ (lw_tail R x4 (cd + 610) (dd + 2200) S8 v_5 f_5 g_5)))))) v_4 f_4 g_4)) (bI b) v f g := fun b hoff h5 T ρ' S8 eT gT f90 o8 j8 => by
    subst hoff
    refine p_look i98 iS iX iC iK i48 (by omega) (fun w => ?_) (fun a v' f' _ ha hsl hF h99 h48 hK => ?_)
    · rcases w with w | w
      · exact absurd w (by decide)
      · exact absurd (full.mp w) h5
    have vw : vG sg (if b = true then ix else cmV cm) ∧ vwM made (if b = true then ix else cmV cm) := by
      cases b with
      | true => exact ⟨p1, a2.1⟩
      | false => exact ⟨gC.1, gC.2.2⟩
    have hrel : Rel (k + 1) S8 dp x out v' f' g (cd + 610) (dd + 2200) := Rel_I (sn' := sn ++ [(op, if b = true then ix else cmV cm)]) (op' := op + 1) hl a3 a4 a5 a6 a8 a9 b2 b3 eT gT ⟨a2.1, a2.2.1, a2.2.2.1, a2.2.2.2.1, fun s hs => by
        rcases List.mem_append.mp hs with h | h
        · exact a2.2.2.2.2 s h
        · rw [List.mem_singleton.mp h]; exact vw.2⟩ f90 o8 hF (by decide) (by decide) (by decide) ⟨⟨by rw [hF.1 98 (by decide)]; exact i98, fun q => by rw [hF.1 97 (by decide)]; exact i97 q, by rw [hF.1 96 (by decide)]; exact i96, by rw [hF.1 39 (by decide)]; exact i39, h48⟩, rB_f hF (by decide) (by decide) (by decide) iB, rS_f hF (by decide) (by decide) (by decide) iS, rX_f hF (by decide) (by decide) iX, rM_f hF (by decide) (by decide) iM, rC_f hF (by decide) (by decide) iC, rP_f hF (by decide) (by decide) iP, hK, ⟨rZ_f hF (by decide) iZ.1, rZ_f hF (by decide) iZ.2.1, rZ_f hF (by decide) iZ.2.2.1, rZ_f hF (by decide) iZ.2.2.2.1, rZ_f hF (by decide) iZ.2.2.2.2⟩, rW_f hF (by decide) iW⟩ ⟨⟨p1, p2, p3, p4, fun s hs => by
        rcases List.mem_append.mp hs with h | h
        · exact p5 s h
        · rw [List.mem_singleton.mp h]; exact vw.1⟩, p6, p7, ⟨(List.perm_append_singleton _ _).trans ((List.Perm.cons _ p8).trans (fm_up hsl List.nodup_range (List.mem_range.mpr ha)).symm), by
        rw [List.map_append]
        refine List.nodup_append.mpr ⟨p8b, List.nodup_cons.mpr ⟨List.not_mem_nil, List.nodup_nil⟩, fun s hs t ht e => ?_⟩
        obtain ⟨s', hs', rfl⟩ := List.mem_map.mp hs
        have := p8c s' hs'
        rw [e, List.mem_singleton.mp ht] at this
        exact absurd this (Nat.lt_irrefl _), fun s hs => by
        rcases List.mem_append.mp hs with h | h
        · have := p8c s h; omega
        · rw [List.mem_singleton.mp h]; show op < op + 1; omega, by omega⟩, fun w => absurd w (by decide), p10, p11, p12, p13, p14.1, by omega⟩ (fun _ _ => rfl) (Nat.le_refl _) (by omega) (by omega)
    exact tl_ok bd2 h99 (out_X o8) j8 (hN _ _ _ _ _ _ hrel)
  by_cases hy : off = true ∨ 5 ≤ sn.length
  · have hy' : off = true ∨ ∀ a, a < 5 → sl a ≠ none := hy.imp (fun z => z) full.mpr
    refine ⟨vp1, fun c => ⟨610, 2200, bd2, ?_⟩, fun c => ⟨610, 2200, bd2, ?_⟩⟩
    · unfold kw_L_look
      exact ⟨hl.1.1, Or.inr ⟨610, 2200, by omega, x_look a1 hy (by omega) (by omega) ⟨by omega, vp1, fun _ => ⟨bd2, thr false hy'⟩, fun w => absurd c w⟩⟩⟩
    · unfold kw_L_look
      exact ⟨hl.1.1, Or.inr ⟨610, 2200, by omega, x_look a1 hy (by omega) (by omega) ⟨by omega, vp1, fun w => absurd w c, fun _ => ⟨bd2, thr true hy'⟩⟩⟩⟩
  · have hoff : off = false := by
      cases off with
      | true => exact absurd (Or.inl rfl) hy
      | false => rfl
    have h5 : ¬ 5 ≤ sn.length := fun z => hy (Or.inr z)
    subst hoff
    refine ⟨vp1, fun c => ⟨610, 2200, bd2, ?_⟩, fun c => ⟨610, 2200, bd2, ?_⟩⟩
    · unfold kw_L_look
      exact ⟨hl.1.1, Or.inl ⟨610, 2200, by omega, by omega, g_look (b := false) a1 a2 (by omega) (by omega) (by omega) (by omega) (by omega) (by omega) (by omega) (fun T ρ' eT gT => cls_out (by omega) (out_fr eT.1 (by decide) o) (fun S8 f90 o8 j8 => ⟨vp1, fun _ => ⟨bd2, yes false rfl h5 T ρ' S8 eT gT f90 o8 j8⟩, fun w => absurd c w⟩))⟩⟩
    · unfold kw_L_look
      exact ⟨hl.1.1, Or.inl ⟨610, 2200, by omega, by omega, g_look (b := true) a1 a2 (by omega) (by omega) (by omega) (by omega) (by omega) (by omega) (by omega) (fun T ρ' eT gT => cls_out (by omega) (out_fr eT.1 (by decide) o) (fun S8 f90 o8 j8 => ⟨vp1, fun w => absurd w c, fun _ => ⟨bd2, yes true rfl h5 T ρ' S8 eT gT f90 o8 j8⟩⟩))⟩⟩
theorem lc_44 (hI : Rel k S dp x out v f g cd dd) (hk : k < 512) (hx4 : x4 = nI (6 * k)) (hL : 6 * k + 6 ≤ L) (hL2 : L ≤ 3072) (hN : nxR R k dp x out x4) : lw_c44 R xs L dp x out x4 cd dd S v f g := by
  have vp1 := vp6 hx4 hL hL2 (show 1 < 6 by decide)
  have vp2 := vp6 hx4 hL hL2 (show 2 < 6 by decide)
  unfold lw_c44
  obtain ⟨y1, ey1⟩ : ∃ y1, y1 = xs (x4 + nI 1).toNatClampNeg := ⟨_, rfl⟩
  rw [← ey1]
  obtain ⟨y2, ey2⟩ : ∃ y2, y2 = xs (x4 + nI 2).toNatClampNeg := ⟨_, rfl⟩
  rw [← ey2]
  have hx6 := Rel_x (t := nI 1) (mc := 1) (ms := 6) (by decide) (by decide) hI
  have bd := Rel_bd (by omega) hx6
  have bd0 := Rel_bd (by omega) hI
  obtain ⟨ρ, WL, n, P, ks, A, yn, F, G, ad, c0, c1, n0, P0, n1, P1, hl, hr⟩ := id hI
  obtain ⟨o, so, sd, sg, made, B, ix, mg, cm, pr, sn, op, fi, w, cc, off, dn, hd, sl, m, nd, qs, w0, w1, H, sk, tk, CL, u, RR, ⟨a1, a2⟩, ⟨a3, a4⟩, ⟨a5, a6⟩, a7, a8, a9, b1, b2, b3, b7, b8⟩ := id hr
  obtain ⟨⟨i98, i97, i96, i39, i48⟩, iB, iS, iX, iM, iC, iP, iK, iZ, iW⟩ := id a7
  obtain ⟨⟨p1, p2, p3, p4, p5⟩, p6, p7, ⟨p8, p8b, p8c, p8d⟩, p9, p10, p11, p12, p13, p14⟩ := id b1
  have hx62 := Rel_x (t := nI 2) (mc := 1) (ms := 6) (by decide) (by decide) hI
  refine ⟨vp1, vp2, 1, 6, bd, ?_⟩
  unfold kw_L_weigh
  by_cases hy : ∃ c, c < 2 ∧ y1 = nI c
  · obtain ⟨c, hc, rfl⟩ := hy
    by_cases hz : ∃ a, 1 ≤ a ∧ a ≤ 9 ∧ y2 = nI a
    · obtain ⟨a, a1', a9', rfl⟩ := hz
      refine ⟨hl.1.1, Or.inl ⟨by omega, g_weigh hl.1.1 a5 hc ⟨a1', a9'⟩ (fun T fT gR hxr => cls_out (by omega) (out_fr fT (by decide) o) (fun S8 f90 o8 j8 => ⟨vp1, vp2, bd, ?_⟩))⟩⟩
      refine p_weigh a9.1.1 a9.1.2 (fun w => absurd rfl (w c hc)) (fun fl _ _ w => absurd rfl (w a a1' a9')) (fun fl a' f' hfl e1 _ _ e2 hf q0 q1 => ?_)
      obtain rfl : c = fl := (nI_eq (by omega) (by omega)).mp e1
      obtain rfl : a = a' := (nI_eq (by omega) (by omega)).mp e2
      have hF : rF [99] [49] [] v f g (upd v 99 (nI 0)) f' g := ⟨fun i hi => upd_n (fun e => hi (by rw [e]; decide)), fun n hn => hf n (fun e => hn (by rw [e]; decide)), fun _ _ => rfl⟩
      have hrel : Rel (k + 1) S8 dp x out (upd v 99 (nI 0)) f' g (cd + 1) (dd + 6) := Rel_F (mc := 1) (ms := 6) hl a1 a2 a3 a4 a7 a8 b1 b2 b7 b8 (fr_fk fT (by decide)) (fun _ _ => rfl) (by decide) gR (gFn_f fT (by decide) (hxr _) (hxr _) a6) f90 o8 hF (by decide) (by decide) (by decide) ⟨⟨q0, q1⟩, rHt_fr (upd_n (by decide)) (hf 59 (by decide)) (hf 60 (by decide)) a9.2.1, by rw [upd_n (by decide)]; exact a9.2.2.1, by rw [upd_n (by decide)]; exact a9.2.2.2.1, rCa_fr (upd_n (by decide)) (hf 57 (by decide)) (hf 58 (by decide)) a9.2.2.2.2⟩ ⟨by have := b3.1; split <;> omega, b3.2.1, b3.2.2.1, by have := b3.2.2.2; omega⟩ (by decide) (by decide)
      exact tl_ok bd upd_at (out_X o8) j8 (hN _ _ _ _ _ _ hrel)
    · have hno : ∀ a, 1 ≤ a → a ≤ 9 → y2 ≠ nI a := fun a h1 h2 h3 => hz ⟨a, h1, h2, h3⟩
      refine ⟨hl.1.1, Or.inr (Or.inr ⟨1, 6, by omega, x_weighA hc hno (by omega) (by omega) ⟨by omega, vp1, vp2, bd, ?_⟩⟩)⟩
      exact p_weigh a9.1.1 a9.1.2 (fun w => absurd rfl (w c hc)) (fun fl _ _ _ => tl_x (by decide) bd upd_at (hN _ _ _ _ _ _ hx62)) (fun fl a' f' _ _ h1 h2 e2 => absurd e2 (hno a' h1 h2))
  · have hno : ∀ c, c < 2 → y1 ≠ nI c := fun c h1 h2 => hy ⟨c, h1, h2⟩
    refine ⟨hl.1.1, Or.inr (Or.inl ⟨1, 6, by omega, x_weighF hno (by omega) (by omega) ⟨by omega, vp1, vp2, bd, ?_⟩⟩)⟩
    exact p_weigh a9.1.1 a9.1.2 (fun _ => tl_x (by decide) bd upd_at (hN _ _ _ _ _ _ hx6)) (fun fl hfl e => absurd e (hno fl hfl)) (fun fl a' f' hfl e => absurd e (hno fl hfl))
end CASO
