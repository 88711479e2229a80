/-! both worlds together: merge, documents, open -/
theorem nd_map {α β : Type} {F : α → β} : ∀ {l : List α}, (∀ a, a ∈ l → ∀ b, b ∈ l → F a = F b → a = b) → l.Nodup → (l.map F).Nodup
  | [], _, _ => List.nodup_nil
  | a :: l, hi, h => by
    obtain ⟨h1, h2⟩ := List.nodup_cons.mp h
    rw [List.map_cons]
    refine List.nodup_cons.mpr ⟨fun hm => ?_, nd_map (fun x hx y hy e => hi x (List.mem_cons_of_mem _ hx) y (List.mem_cons_of_mem _ hy) e) h2⟩
    obtain ⟨b, hb, e⟩ := List.mem_map.mp hm
    have := hi b (List.mem_cons_of_mem _ hb) a List.mem_cons_self e
    exact h1 (this ▸ hb)
theorem fndJ_nd {f : Nat → Bool} {n : Nat} : ∀ k : Nat, (fndJ f n k).Nodup
  | 0 => List.nodup_nil
  | k + 1 => by
    rw [fndJ]
    split
    · refine List.nodup_append.mpr ⟨fndJ_nd k, List.nodup_cons.mpr ⟨List.not_mem_nil, List.nodup_nil⟩, fun a ha b hb e => ?_⟩
      have h1 := (fndJ_mem ha).2.1
      rw [e, List.mem_singleton.mp hb] at h1
      exact absurd h1 (Nat.lt_irrefl k)
    · rw [List.append_nil]; exact fndJ_nd k
theorem mtL_nd {sg : Nat → List Dc} {f : Nat → Nat → Bool} : ∀ {ids : List Nat}, ids.Nodup → (mtL sg f ids).Nodup
  | [], _ => List.nodup_nil
  | n :: ids, h => by
    obtain ⟨h1, h2⟩ := List.nodup_cons.mp h
    unfold mtL
    rw [List.flatMap_cons]
    refine List.nodup_append.mpr ⟨fndJ_nd _, mtL_nd h2, fun a ha b hb e => ?_⟩
    have e1 := (fndJ_mem ha).1
    have e2 := (mtL_mem (sg := sg) (f := f) (ids := ids) hb).1
    rw [← e, e1] at e2
    exact h1 e2
theorem smN_up {F : Nat → Nat} {a : Nat} : ∀ {N : Nat}, a < N → smN F N = smN (upR F a 0) N + F a
  | 0, h => absurd h (Nat.not_lt_zero a)
  | N + 1, h => by
    rw [smN, smN]
    by_cases c : a = N
    · subst c
      have : ∀ M, M ≤ a → smN F M = smN (upR F a 0) M := fun M => by
        induction M with
        | zero => intro _; rfl
        | succ M ih => intro hM; rw [smN, smN, ih (by omega), upR_n (by omega)]
      rw [this a (Nat.le_refl _), upR_s, Nat.add_zero]
    · rw [smN_up (F := F) (a := a) (N := N) (by omega), upR_n (show N ≠ a by omega)]; omega
/-- distinct segments' sizes -/
theorem sumL_smN {N : Nat} : ∀ {ids : List Nat} {F : Nat → Nat}, ids.Nodup → (∀ n, n ∈ ids → n < N) → sumL F ids ≤ smN F N
  | [], _, _, _ => Nat.zero_le _
  | a :: ids, F, h, hb => by
    obtain ⟨h1, h2⟩ := List.nodup_cons.mp h
    have ih := sumL_smN (N := N) (ids := ids) (F := upR F a 0) h2 (fun n hn => hb n (List.mem_cons_of_mem _ hn))
    have e : sumL (upR F a 0) ids = sumL F ids := sumL_ext (fun n hn => upR_n (fun e => h1 (e ▸ hn)))
    rw [e] at ih
    rw [smN_up (hb a List.mem_cons_self)]
    show F a + sumL F ids ≤ _
    omega
/-- live documents of a view are few -/
theorem vG_len {sg : Nat → List Dc} {s : Vw} (h : vG sg s) (hb : ∀ n, n ∈ s.1 → ∀ d, d ∈ sg n → dK d < 100) : allN sg s.2 s.1 ≤ 100 := by
  rw [← mtL_cnt]
  obtain ⟨K, hK⟩ : ∃ K : Nat × Nat → Nat, K = fun y => dK ((sg y.1).getD y.2 ((0, 0, 0), [], [])) := ⟨_, rfl⟩
  have at' : ∀ y, y ∈ mtL sg s.2 s.1 → ∃ d, (sg y.1)[y.2]? = some d ∧ K y = dK d ∧ d ∈ sg y.1 := fun y hy => by
    obtain ⟨-, a2, -⟩ := mtL_mem hy
    obtain ⟨d, hd⟩ := get_ex (l := sg y.1) (k := y.2) a2
    refine ⟨d, hd, ?_, List.mem_of_getElem? hd⟩
    rw [hK]
    show dK ((sg y.1).getD y.2 _) = _
    rw [List.getD_eq_getElem?_getD, hd]; rfl
  have inj : ((mtL sg s.2 s.1).map K).Nodup := by
    refine nd_map (fun y hy z hz e => ?_) (mtL_nd h.1)
    obtain ⟨d, h1, h2, -⟩ := at' y hy
    obtain ⟨d', h3, h4, -⟩ := at' z hz
    obtain ⟨b1, b2, b3⟩ := mtL_mem hy
    obtain ⟨c1, c2, c3⟩ := mtL_mem hz
    have := h.2 (K y) y.1 y.2 d z.1 z.2 d' b1 c1 h1 h3 b3 c3 h2.symm (by rw [← h4, ← e])
    exact Prod.ext this.1 this.2
  have := nd_len (m := List.range 100) inj (fun q hq => by
    obtain ⟨y, hy, rfl⟩ := List.mem_map.mp hq
    obtain ⟨d, h1, h2, h3⟩ := at' y hy
    rw [h2]
    exact List.mem_range.mpr (hb y.1 (mtL_mem hy).1 d h3))
  rwa [List.length_map, List.length_range] at this
theorem min_ex {p : Nat → Prop} (h : ∃ i, p i) : ∃ k, p k ∧ ∀ i, i < k → ¬ p i := by
  obtain ⟨N, hN⟩ := h
  induction N using Nat.strongRecOn with
  | ind N ih =>
    by_cases c : ∃ i, i < N ∧ p i
    · obtain ⟨i, h1, h2⟩ := c
      exact ih i h1 h2
    · exact ⟨N, hN, fun i h1 h2 => c ⟨i, h1, h2⟩⟩
theorem sn_uq {sn : List (Nat × Vw)} (h : (sn.map (fun s => s.1)).Nodup) {s t : Nat × Vw} (hs : s ∈ sn) (ht : t ∈ sn) (e : s.1 = t.1) : s = t := by
  induction sn with
  | nil => exact absurd hs List.not_mem_nil
  | cons a sn ih =>
    rw [List.map_cons] at h
    obtain ⟨h1, h2⟩ := List.nodup_cons.mp h
    rcases List.mem_cons.mp hs with rfl | hs
    · rcases List.mem_cons.mp ht with rfl | ht
      · rfl
      · exact absurd (List.mem_map.mpr ⟨t, ht, e.symm⟩) h1
    · rcases List.mem_cons.mp ht with rfl | ht
      · exact absurd (show t.1 ∈ sn.map (fun s => s.1) from List.mem_map.mpr ⟨s, by assumption, e⟩) h1
      · exact ih h2 hs ht
section CASH
variable {S T U S8 : cS} {v v' : Nat → Int32} {f f' : Nat → Nat → Int32} {g g' : Nat → Nat → Int64} {dp x out k cd dd L : Nat} {x4 : Int32} {xs : Nat → Int32} {R : Int32 → Nat → Nat → cS → (Nat → Int32) → (Nat → Nat → Int32) → (Nat → Nat → Int64) → Prop}
theorem rSg_key {l : LGt} {made dn : Nat} {sg : Nat → List Dc} {hd : Nat → Nat → Nat} (h : rSg l v f g made dn sg hd) {n : Nat} (hn : n < made) : ∀ d, d ∈ sg n → dK d < 100 := fun d hd' => by
  obtain ⟨j, hj⟩ := List.mem_iff_getElem?.mp hd'
  exact ((h.2.2 n hn).2.2 j d hj).2.2.1.2
/-- a part of a view -/
theorem vG_sub {sg : Nat → List Dc} {s : Vw} {ids : List Nat} (h : vG sg s) (hs : ids.Sublist s.1) : vG sg (ids, s.2) := ⟨h.1.sublist hs, fun key n j d n' j' d' h1 h2 => h.2 key n j d n' j' d' (hs.subset h1) (hs.subset h2)⟩
theorem sn_ex {sn : List (Nat × Vw)} {sl : Nat → Option (Nat × Vw)} (h : sn.Perm ((List.range 5).filterMap sl)) {s : Nat × Vw} : s ∈ sn ↔ ∃ a, a < 5 ∧ sl a = some s := by
  rw [h.mem_iff, List.mem_filterMap]
  constructor
  · rintro ⟨a, h1, h2⟩
    exact ⟨a, List.mem_range.mp h1, h2⟩
  · rintro ⟨a, h1, h2⟩
    exact ⟨a, List.mem_range.mpr h1, h2⟩
theorem lc_10 (hI : Rel k S dp x out v f g cd dd) (hk : k < 512) (hN : nxR R k dp x out x4) : lw_c10 R xs L dp x out x4 cd dd S v f g := by
  unfold lw_c10
  have hx6 := Rel_x (t := nI 1) (mc := 1) (ms := 6) (by decide) (by decide) hI
  have bd := Rel_bd (by omega) hx6
  have bd0 := Rel_bd (by omega) hI
  obtain ⟨ρ, WL, n, P, ks, A, yn, F, G, ad, c0, c1, n0, P0, n1, P1, hl, hr⟩ := id hI
  obtain ⟨o, so, sd, sg, made, B, ix, mg, cm, pr, sn, op, fi, w, cc, off, dn, hd, sl, m, nd, qs, w0, w1, H, sk, tk, CL, u, RR, ⟨a1, a2⟩, ⟨a3, a4⟩, ⟨a5, a6⟩, a7, a8, a9, b1, b2, b3, b7, b8⟩ := id hr
  obtain ⟨⟨i98, i97, i96, i39, i48⟩, iB, iS, iX, iM, iC, iP, iK, iZ, iW⟩ := id a7
  obtain ⟨⟨p1, p2, p3, p4, p5⟩, p6, p7, ⟨p8, p8b, p8c, p8d⟩, p9, p10, p11, p12, p13, p14⟩ := id b1
  have i200 := iX.2.1
  have hT : ∀ k, (mtL sg ix.2 ((ix.1.drop k).take 3)).length ≤ 100 := fun k => by
    have sub : ((ix.1.drop k).take 3).Sublist ix.1 := (List.take_sublist _ _).trans (List.drop_sublist _ _)
    rw [mtL_cnt]
    exact vG_len (s := ((ix.1.drop k).take 3, ix.2)) (vG_sub p1 sub) (fun n hn => rSg_key iS (a2.1 n (sub.subset hn)))
  have bd2 := Rest_bd (mc := 20) (ms := 400) hk (by decide) (by decide) hr
  have hx20 := Rel_x (t := nI 1) (mc := 20) (ms := 400) (by decide) (by decide) hI
  refine ⟨20, 400, bd2, ?_⟩
  unfold kw_L_merge
  by_cases hy : off = true ∨ (∀ i, ¬ dueI sg ix.1 i) ∨ mg ≠ none ∨ 200 ≤ made
  · refine ⟨hl.1.1, Or.inr ⟨20, 400, by omega, x_merge a1 hy (by have := iS.1.2; omega) (by omega) (by omega) ⟨by omega, bd2, ?_⟩⟩⟩
    refine p_merge i98 iM iS iX (fun k _ => hT k) (fun _ => tl_x (by decide) bd2 upd_at (hN _ _ _ _ _ _ hx20)) (fun k' v' f' e1 e2 e3 e4 _ _ _ _ _ => ?_)
    rcases hy with hy | hy | hy | hy
    · rw [hy] at e1; exact absurd e1 (by decide)
    · exact absurd e4 (hy k')
    · exact absurd e2 hy
    · omega
  · have hoff : off = false := by
      cases off with
      | true => exact absurd (Or.inl rfl) hy
      | false => rfl
    subst hoff
    have hmg : mg = none := by
      cases mg with
      | none => rfl
      | some sc => exact absurd (Or.inr (Or.inr (Or.inl (by simp)))) hy
    subst hmg
    have h200 : made < 200 := by
      rcases Nat.lt_or_ge made 200 with z | z
      · exact z
      · exact absurd (Or.inr (Or.inr (Or.inr z))) hy
    obtain ⟨k0, hdue, hmin⟩ : ∃ k0, dueI sg ix.1 k0 ∧ ∀ i, i < k0 → ¬ dueI sg ix.1 i := by
      refine min_ex ?_
      by_cases z : ∃ i, dueI sg ix.1 i
      · exact z
      · exact absurd (Or.inr (Or.inl (fun i h => z ⟨i, h⟩))) hy
    refine ⟨hl.1.1, Or.inl ⟨20, 400, by omega, by omega, g_merge a1 a2 (by omega) hdue hmin h200 (Nat.le_refl _) (Nat.le_refl _) (fun T ρ' eT gT => cls_out (by omega) (out_fr eT.1 (by decide) o) (fun S8 f90 o8 j8 => ⟨bd2, ?_⟩))⟩⟩
    refine p_merge i98 iM iS iX (fun k _ => hT k) (fun w => absurd w hy) (fun k' v' f' _ _ _ e4 e5 e6 hF h99 hM' => ?_)
    obtain rfl : k0 = k' := by
      rcases Nat.lt_trichotomy k0 k' with z | z | z
      · exact absurd hdue (e5 k0 z)
      · exact z
      · exact absurd e4 (hmin k' z)
    have sub : ((ix.1.drop k0).take 3).Sublist ix.1 := (List.take_sublist _ _).trans (List.drop_sublist _ _)
    have hrel : Rel (k + 1) S8 dp x out v' f' g (cd + 20) (dd + 400) := Rel_I (mg' := some (((ix.1.drop k0).take 3, ix.2), 0)) hl a3 a4 a5 a6 a8 a9 b2 b3 eT gT ⟨a2.1, fun w e n hn => by rw [← Option.some.inj e] at hn; exact a2.1 n (sub.subset hn), a2.2.2.1, a2.2.2.2.1, a2.2.2.2.2⟩ f90 o8 hF (by decide) (by decide) (by decide) ⟨⟨by rw [hF.1 98 (by decide)]; exact i98, fun q => by rw [hF.1 97 (by decide)]; exact i97 q, by rw [hF.1 96 (by decide)]; exact i96, by rw [hF.1 39 (by decide)]; exact i39, by rw [hF.1 48 (by decide)]; exact i48⟩, rB_f hF (by decide) (by decide) (by decide) iB, rS_f hF (by decide) (by decide) (by decide) iS, rX_f hF (by decide) (by decide) iX, hM', rC_f hF (by decide) (by decide) iC, rP_f hF (by decide) (by decide) iP, rK_f hF (by decide) iK, ⟨rZ_f hF (by decide) iZ.1, rZ_f hF (by decide) iZ.2.1, rZ_f hF (by decide) iZ.2.2.1, rZ_f hF (by decide) iZ.2.2.2.1, rZ_f hF (by decide) iZ.2.2.2.2⟩, rW_f hF (by decide) iW⟩ ⟨⟨p1, fun s c e => by obtain ⟨rfl, -⟩ := Prod.mk.inj (Option.some.inj e); exact vG_sub p1 sub, p3, p4, p5⟩, p6, fun s c e => by
        obtain ⟨rfl, rfl⟩ := Prod.mk.inj (Option.some.inj e)
        refine ⟨k0, by omega, by show ((ix.1.drop k0).take 3).length = 3; rw [List.length_take, List.length_drop]; omega, fun a n h => ?_, Nat.zero_le _, by omega⟩
        have ha := get_lt h
        rw [List.length_take] at ha
        have h' : ((ix.1.drop k0).take 3)[a]? = some n := h
        rw [List.getElem?_take_of_lt (by omega), List.getElem?_drop] at h'
        exact h', ⟨p8, p8b, p8c, by omega⟩, fun w => absurd w (by decide), p10, p11, p12, p13, p14.1, by have := p14.2; simp only [mgC] at this ⊢; omega⟩ (fun _ _ => rfl) (Nat.le_refl _) (by simp only [mgC] at b7 ⊢; omega) (by simp only [mgC] at b8 ⊢; omega)
    have := tl_ok (r := nI (mtL sg ix.2 ((ix.1.drop k0).take 3)).length) bd2 h99 (out_X o8) (by rw [mtL_cnt]; exact j8) (hN _ _ _ _ _ _ hrel)
    exact this
theorem lc_33 (hI : Rel k S dp x out v f g cd dd) (hk : k < 512) (hx4 : x4 = nI (6 * k)) (hL : 6 * k + 6 ≤ L) (hL2 : L ≤ 3072) (hN : nxR R k dp x out x4) : lw_c33 R xs L dp x out x4 cd dd S v f g := by
  have vp1 := vp6 hx4 hL hL2 (show 1 < 6 by decide)
  unfold lw_c33
  obtain ⟨y1, ey1⟩ : ∃ y1, y1 = xs (x4 + nI 1).toNatClampNeg := ⟨_, rfl⟩
  rw [← ey1]
  have hx6 := Rel_x (t := nI 1) (mc := 1) (ms := 6) (by decide) (by decide) hI
  have bd := Rel_bd (by omega) hx6
  have bd0 := Rel_bd (by omega) hI
  obtain ⟨ρ, WL, n, P, ks, A, yn, F, G, ad, c0, c1, n0, P0, n1, P1, hl, hr⟩ := id hI
  obtain ⟨o, so, sd, sg, made, B, ix, mg, cm, pr, sn, op, fi, w, cc, off, dn, hd, sl, m, nd, qs, w0, w1, H, sk, tk, CL, u, RR, ⟨a1, a2⟩, ⟨a3, a4⟩, ⟨a5, a6⟩, a7, a8, a9, b1, b2, b3, b7, b8⟩ := id hr
  obtain ⟨⟨i98, i97, i96, i39, i48⟩, iB, iS, iX, iM, iC, iP, iK, iZ, iW⟩ := id a7
  obtain ⟨⟨p1, p2, p3, p4, p5⟩, p6, p7, ⟨p8, p8b, p8c, p8d⟩, p9, p10, p11, p12, p13, p14⟩ := id b1
  refine ⟨vp1, 1, 6, bd, ?_⟩
  have hT : ∀ a s, a < 5 → sl a = some s → (mtL sg s.2.2 s.2.1).length ≤ 600 := fun a s ha hs => by
    have hm := (sn_ex p8).mpr ⟨a, ha, hs⟩
    have := vG_len (p5 s hm) (fun n hn => rSg_key iS (a2.2.2.2.2 s hm n hn))
    rw [mtL_cnt]; omega
  unfold kw_L_documents
  by_cases hy : ∃ s, s ∈ sn ∧ nI s.1 = y1
  · refine ⟨hl.1.1, Or.inl ⟨by omega, g_documents a1 hy (fun s hs es => cls_out (by omega) o (fun S8 f90 o8 j8 => ⟨vp1, bd, ?_⟩))⟩⟩
    refine p_documents iS iK hT (fun w => ?_) (fun a s' v' f' h5 hsl es' hF h99 => ?_)
    · obtain ⟨a, h5, hsl⟩ := (sn_ex p8).mp hs
      exact absurd es (w a s h5 hsl)
    · have hs' := (sn_ex p8).mpr ⟨a, h5, hsl⟩
      have b1' := p8c s hs
      have b2' := p8c s' hs'
      have e1 : s = s' := sn_uq p8b hs hs' ((nI_eq (by omega) (by omega)).mp (es.trans es'.symm))
      subst e1
      have hrel : Rel (k + 1) S8 dp x out v' f' g (cd + 1) (dd + 6) := Rel_R hl hr f90 (by decide) o8 hF (by decide) (by decide) (by decide) (by decide) (by decide)
      exact tl_ok (r := nI (mtL sg s.2.2 s.2.1).length) bd h99 (out_X o8) (by rw [mtL_cnt]; exact j8) (hN _ _ _ _ _ _ hrel)
  · have hno : ∀ s, s ∈ sn → nI s.1 ≠ y1 := fun s h1 h2 => hy ⟨s, h1, h2⟩
    refine ⟨hl.1.1, Or.inr ⟨1, 6, by omega, x_documents a1 hno (by omega) (by omega) ⟨by omega, vp1, bd, ?_⟩⟩⟩
    exact p_documents iS iK hT (fun _ => tl_x (by decide) bd upd_at (hN _ _ _ _ _ _ hx6)) (fun a s' v' f' h5 hsl es' _ _ => absurd es' (hno s' ((sn_ex p8).mpr ⟨a, h5, hsl⟩)))
theorem lc_17 (hI : Rel k S dp x out v f g cd dd) (hk : k < 512) (hN : nxR R k dp x out x4) : lw_c17 R xs L dp x out x4 cd dd S v f g := by
  unfold lw_c17
  have hx6 := Rel_x (t := nI 1) (mc := 1) (ms := 6) (by decide) (by decide) hI
  have bd := Rel_bd (by omega) hx6
  have bd0 := Rel_bd (by omega) hI
  obtain ⟨ρ, WL, n, P, ks, A, yn, F, G, ad, c0, c1, n0, P0, n1, P1, hl, hr⟩ := id hI
  obtain ⟨o, so, sd, sg, made, B, ix, mg, cm, pr, sn, op, fi, w, cc, off, dn, hd, sl, m, nd, qs, w0, w1, H, sk, tk, CL, u, RR, ⟨a1, a2⟩, ⟨a3, a4⟩, ⟨a5, a6⟩, a7, a8, a9, b1, b2, b3, b7, b8⟩ := id hr
  obtain ⟨⟨i98, i97, i96, i39, i48⟩, iB, iS, iX, iM, iC, iP, iK, iZ, iW⟩ := id a7
  obtain ⟨⟨p1, p2, p3, p4, p5⟩, p6, p7, ⟨p8, p8b, p8c, p8d⟩, p9, p10, p11, p12, p13, p14⟩ := id b1
  have bd2 := Rest_bd (mc := 610) (ms := 2200) hk (by decide) (by decide) hr
  have hx20 := Rel_x (t := nI 1) (mc := 610) (ms := 2200) (by decide) (by decide) hI
  refine ⟨610, 2200, bd2, ?_⟩
  unfold kw_L_open
  cases off with
  | false =>
    refine ⟨hl.1.1, Or.inr ⟨610, 2200, by omega, x_open a1 (by omega) (by omega) ⟨by omega, bd2, ?_⟩⟩⟩
    exact p_open i98 iC iS iZ.2.2.2.1 (fun _ => tl_x (by decide) bd2 upd_at (hN _ _ _ _ _ _ hx20)) (fun v' w => absurd w (by decide)) (fun s v' f' w => absurd w (by decide))
  | true =>
    obtain ⟨z1, z2, z3, z4, z5⟩ := p9 rfl
    subst z2 z3 z4 z5
    have gC : vG sg (cmV cm) ∧ (cmV cm).1.length ≤ 200 := by
      cases cm with
      | none => exact ⟨⟨List.nodup_nil, fun key n j d n' j' d' h => absurd h List.not_mem_nil⟩, Nat.zero_le _⟩
      | some s => exact ⟨p3 s rfl, (iC.2 s rfl).2.1⟩
    have hcm : vwM made (cmV cm) := by
      cases cm with
      | none => exact fun n hn => absurd hn List.not_mem_nil
      | some s => exact a2.2.2.1 s rfl
    have hsum := sumL_smN (F := fun n => (sg n).length) gC.1.1 hcm
    have p142 : smN (fun n => (sg n).length) made + 0 + 0 ≤ k := p14.2
    refine ⟨hl.1.1, Or.inl ⟨610, 2200, by omega, by omega, g_open a1 a2 (by omega) (by omega) (by omega) (fun T ρ' eT gT => cls_out (by omega) (out_fr eT.1 (by decide) o) (fun S8 f90 o8 j8 => ⟨bd2, ?_⟩))⟩⟩
    have fin : ∀ v' f', rF [99, 98, 97, 34] [21, 22, 24] [] v f g v' f' g → v' 98 = bI false → v' 97 = -1 → rIx v' f' made sg (cmV cm).1 (cmV cm).2 → (∀ n, n ∈ (cmV cm).1 → ∀ j, j < (sg n).length → f' 22 (100 * n + j) = bI ((cmV cm).2 n j)) → zK f f' 21 → zK f f' 22 → Rel (k + 1) S8 dp x out v' f' g (cd + 610) (dd + 2200) := fun v' f' hF h98 h97 hX h22 hz1 hz2 => Rel_I (ix' := cmV cm) (mg' := none) (pr' := none) (cc' := none) hl a3 a4 a5 a6 a8 a9 b2 b3 eT gT ⟨hcm, a2.2.1, a2.2.2.1, a2.2.2.2.1, a2.2.2.2.2⟩ f90 o8 hF (by decide) (by decide) (by decide) ⟨⟨h98, fun _ => h97, by rw [hF.1 96 (by decide)]; exact i96, by rw [hF.1 39 (by decide)]; exact i39, by rw [hF.1 48 (by decide)]; exact i48⟩, rB_f hF (by decide) (by decide) (by decide) iB, rS_f hF (by decide) (by decide) (by decide) iS, hX, rM_f hF (by decide) (by decide) iM, rC_f hF (by decide) (by decide) iC, rP_f hF (by decide) (by decide) iP, rK_f hF (by decide) iK, ⟨fun c hc => hz1 c (iZ.1 c hc), fun c hc => hz2 c (iZ.2.1 c hc), rZ_f hF (by decide) iZ.2.2.1, rZ_f hF (by decide) iZ.2.2.2.1, rZ_f hF (by decide) iZ.2.2.2.2⟩, ⟨fun n hn j hj => by
        rw [h22 n hn j hj]
        show _ = bI (wbs cm n j)
        unfold wbs
        have : n ∈ ovL cm := by
          cases cm with
          | none => exact absurd hn List.not_mem_nil
          | some s => exact hn
        rw [if_pos this], fun p e => absurd e (by simp)⟩⟩ ⟨⟨gC.1, p2, p3, p4, p5⟩, ⟨p6.1, fun d hd => absurd hd List.not_mem_nil⟩, fun s c e => absurd e (by simp), ⟨p8, p8b, p8c, by omega⟩, fun w => absurd w (by decide), fun j e => absurd e (by simp), p11, p12, p13, p14.1, by show _ + 0 + 0 ≤ _; omega⟩ (fun _ _ => rfl) (Nat.le_refl _) (by have b7' : cd + 610 * (0 + 0) ≤ _ := b7; show _ + 610 * (0 + 0) ≤ _; omega) (by have b8' : dd + 7000 * (0 + 0) ≤ _ := b8; show _ + 7000 * (0 + 0) ≤ _; omega)
    refine p_open i98 iC iS iZ.2.2.2.1 (fun w => absurd w (by decide)) (fun v' _ e hF h99 h98 h97 h34 => ?_) (fun s v' f' _ e hF h99 h98 h97 hX h22 hz1 hz2 => ?_)
    · subst e
      have hrel := fin v' f ⟨hF.1, fun _ _ => rfl, hF.2.2⟩ h98 h97 ⟨h34, Nat.zero_le _, fun k n h => absurd (get_lt h) (Nat.not_lt_zero k), fun n h => absurd h List.not_mem_nil⟩ (fun n h => absurd h List.not_mem_nil) zK_rf zK_rf
      exact tl_ok (r := nI 0) bd2 h99 (out_X o8) j8 (hN _ _ _ _ _ _ hrel)
    · subst e
      have hrel := fin v' f' hF h98 h97 hX h22 hz1 hz2
      exact tl_ok bd2 h99 (out_X o8) j8 (hN _ _ _ _ _ _ hrel)
end CASH
