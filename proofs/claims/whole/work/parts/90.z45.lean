/-! both worlds together: the cache by recency; find -/
theorem perm_er {α : Type} {l : List α} {a : Nat} {x : α} (h : l[a]? = some x) : (x :: l.eraseIdx a).Perm l := by
  have hl := get_lt h
  have e : l = l.take a ++ x :: l.drop (a + 1) := by
    conv => lhs; rw [← List.take_append_drop a l]
    congr 1
    rw [List.drop_eq_getElem_cons hl]
    congr 1
    exact Option.some.inj ((List.getElem?_eq_getElem hl).symm.trans h)
  rw [List.eraseIdx_eq_take_drop_succ]
  conv => rhs; rw [e]
  exact List.perm_middle.symm
theorem perm_set {α : Type} {l : List α} {a : Nat} {x : α} (h : a < l.length) : (l.set a x).Perm (x :: l.eraseIdx a) := by
  have h1 : (l.set a x)[a]? = some x := by rw [List.getElem?_set_self h]
  have h2 : (l.set a x).eraseIdx a = l.eraseIdx a := List.ext_getElem? (fun j => by
    rw [er_get, er_get]
    split
    · rw [List.getElem?_set_ne (by omega)]
    · rw [List.getElem?_set_ne (by omega)])
  have := perm_er h1
  rw [h2] at this
  exact this.symm
theorem olC_min (CL : List (Nat × Nat × Nat)) : ∀ k i, i ≤ k → (CL.getD (olC CL k) (0, 0, 0)).2.2 ≤ (CL.getD i (0, 0, 0)).2.2
  | 0, i, h => by
    obtain rfl : i = 0 := by omega
    exact Nat.le_refl _
  | k + 1, i, h => by
    rw [olC]
    by_cases c : i = k + 1
    · subst c
      split
      · exact Nat.le_refl _
      · omega
    · have ih := olC_min CL k i (by omega)
      split
      · omega
      · exact ih
def kyC (x : Nat × Nat × Nat) : Nat × Nat := (x.1, x.2.1)
/-- one entry leaves, one comes -/
theorem cRL_mv {CL P : List (Nat × Nat × Nat)} {u i a : Nat} {x : Nat × Nat × Nat} {y : Nat × Nat} (hp : P.Perm CL) (hi : CL[i]? = some x) (ha : P[a]? = some x) (hpw : P.Pairwise (fun s t => s.2.2 < t.2.2)) (hu : ∀ z, z ∈ CL → z.2.2 ≤ u) (hnd : (P.map kyC).Nodup) (h8 : CL.length ≤ 8) (hy : y ∉ (P.map kyC).eraseIdx a) : cRL (CL.set i (y.1, y.2, u + 1)) (u + 1) ((P.map kyC).eraseIdx a ++ [y]) := by
  have il := get_lt hi
  have pe : (P.eraseIdx a).Perm (CL.eraseIdx i) := by
    have h1 := (perm_er ha).trans (hp.trans (perm_er hi).symm)
    exact h1.cons_inv
  have em : (P.eraseIdx a).map kyC = (P.map kyC).eraseIdx a := List.ext_getElem? (fun j => by
    rw [List.getElem?_map, er_get, er_get]
    split <;> rw [List.getElem?_map])
  refine ⟨P.eraseIdx a ++ [(y.1, y.2, u + 1)], ?_, ?_, ?_, fun z hz => ?_, ?_, by rw [List.length_set]; exact h8⟩
  · exact (List.perm_append_singleton _ _).trans ((List.Perm.cons _ pe).trans (perm_set il).symm)
  · rw [← em, List.map_append]; rfl
  · refine List.pairwise_append.mpr ⟨hpw.sublist (List.eraseIdx_sublist _ _), List.pairwise_singleton _ _, fun s hs t ht => ?_⟩
    rw [List.mem_singleton.mp ht]
    have := hu s (hp.mem_iff.mp (List.mem_of_mem_eraseIdx hs))
    show s.2.2 < u + 1
    omega
  · rcases List.mem_or_eq_of_mem_set hz with h | h
    · have := hu z h; omega
    · rw [h]; exact Nat.le_refl _
  · refine List.nodup_append.mpr ⟨hnd.sublist (List.eraseIdx_sublist _ _), List.nodup_cons.mpr ⟨List.not_mem_nil, List.nodup_nil⟩, fun s hs t ht e => ?_⟩
    rw [e, List.mem_singleton.mp ht] at hs
    exact hy hs
theorem nd_er {α : Type} {l : List α} {a : Nat} {x : α} (h : l.Nodup) (ha : l[a]? = some x) : x ∉ l.eraseIdx a := by
  have := (perm_er ha).nodup_iff.mpr h
  exact (List.nodup_cons.mp this).1
theorem cRL_step {CL CL' : List (Nat × Nat × Nat)} {u u' tk tk' qn n : Nat} {R R' : List (Nat × Nat)} {b : Bool} (h : cRL CL u R) (hc : caS qn n (CL, u, tk) (CL', u', tk')) (ht : tkS R (qn, n) R' b) : cRL CL' u' R' ∧ u' = u + 1 ∧ tk' = tk + (if b = true then 1 else 0) ∧ ∀ x, x ∈ CL' → x ∈ CL ∨ (x.1 = qn ∧ x.2.1 = n) := by
  obtain ⟨P, hp, hm, hpw, hu, hnd, h8⟩ := h
  obtain ⟨eu, hc⟩ := hc
  have eu : u' = u + 1 := eu
  subst eu
  have hmk : P.map kyC = R := hm
  subst hmk
  obtain ⟨a, rfl, ht⟩ := ht
  have pl : P.length = CL.length := hp.length_eq
  rcases hc with ⟨i, x, hi, x1, x2, -, e1, e2⟩ | ⟨hno, e1, e2⟩
  · have hi : CL[i]? = some x := hi
    have hx : x ∈ P := hp.mem_iff.mpr (List.mem_of_getElem? hi)
    have kx : kyC x = (qn, n) := by unfold kyC; rw [x1, x2]
    rcases ht with ⟨rfl, ha⟩ | ⟨-, hn, -⟩
    · rw [List.getElem?_map] at ha
      cases hpa : P[a]? with
      | none => rw [hpa] at ha; exact absurd ha (by simp)
      | some z =>
        rw [hpa] at ha
        have kz : kyC z = (qn, n) := Option.some.inj ha
        obtain ⟨a', ha'⟩ := List.mem_iff_getElem?.mp hx
        have e3 : (P.map kyC)[a']? = some (qn, n) := by rw [List.getElem?_map, ha', Option.map_some, kx]
        have e4 : (P.map kyC)[a]? = some (qn, n) := by rw [List.getElem?_map, hpa, Option.map_some, kz]
        have : a' = a := by
          have l1 := get_lt e3
          have l2 := get_lt e4
          exact (List.getElem_inj hnd).mp (Option.some.inj (((List.getElem?_eq_getElem l1).symm.trans e3).trans (e4.symm.trans (List.getElem?_eq_getElem l2))))
        subst this
        have r := cRL_mv (y := (qn, n)) hp hi ha' hpw hu hnd h8 (nd_er hnd e3)
        have e1 : CL' = CL.set i (qn, n, u + 1) := e1
        rw [e1]
        refine ⟨r, rfl, e2, fun z hz => ?_⟩
        rcases List.mem_or_eq_of_mem_set hz with h | h
        · exact Or.inl h
        · rw [h]; exact Or.inr ⟨rfl, rfl⟩
    · exact absurd (List.mem_map.mpr ⟨x, hx, kx⟩) hn
  · rcases ht with ⟨-, ha⟩ | ⟨rfl, hn, ea⟩
    · obtain ⟨z, hz, kz⟩ := List.mem_map.mp (List.mem_of_getElem? ha)
      have := hno z (hp.mem_iff.mp hz)
      unfold kyC at kz
      exact absurd ⟨(Prod.mk.inj kz).1, (Prod.mk.inj kz).2⟩ this
    · have e1 : CL' = ptC CL (qn, n, u + 1) := e1
      rw [e1]
      have ml : (P.map kyC).length = CL.length := by rw [List.length_map, pl]
      rw [ml] at ea
      unfold ptC
      by_cases c : CL.length < 8
      · rw [if_neg (by omega)] at ea
        have er : (P.map kyC).eraseIdx a = P.map kyC := List.ext_getElem? (fun j => by
          rw [er_get]
          split
          · rfl
          · rw [List.getElem?_eq_none (by omega), List.getElem?_eq_none (by omega)])
        rw [er, if_pos c]
        refine ⟨⟨P ++ [(qn, n, u + 1)], List.Perm.append_right _ hp, by rw [List.map_append]; rfl, List.pairwise_append.mpr ⟨hpw, List.pairwise_singleton _ _, fun s hs t ht => ?_⟩, fun z hz => ?_, List.nodup_append.mpr ⟨hnd, List.nodup_cons.mpr ⟨List.not_mem_nil, List.nodup_nil⟩, fun s hs t ht e => ?_⟩, by rw [List.length_append]; show CL.length + 1 ≤ 8; omega⟩, rfl, e2, fun z hz => ?_⟩
        · rw [List.mem_singleton.mp ht]
          have := hu s (hp.mem_iff.mp hs)
          show s.2.2 < u + 1
          omega
        · rcases List.mem_append.mp hz with h | h
          · have := hu z h; omega
          · rw [List.mem_singleton.mp h]; exact Nat.le_refl _
        · rw [e, List.mem_singleton.mp ht] at hs
          exact hn hs
        · rcases List.mem_append.mp hz with h | h
          · exact Or.inl h
          · rw [List.mem_singleton.mp h]; exact Or.inr ⟨rfl, rfl⟩
      · have l8 : CL.length = 8 := by omega
        rw [if_pos l8] at ea
        subst ea
        rw [if_neg c]
        have ef : frC CL = olC CL 7 := if_neg c
        have fl := frC_lt CL
        obtain ⟨x0, hx0⟩ := get_ex (l := CL) (k := frC CL) (by omega)
        obtain ⟨z0, hz0⟩ := get_ex (l := P) (k := 0) (by omega)
        have e0 : z0 = x0 := by
          obtain ⟨j, hj⟩ := List.mem_iff_getElem?.mp (hp.mem_iff.mpr (List.mem_of_getElem? hx0))
          by_cases cj : j = 0
          · rw [cj, hz0] at hj; exact Option.some.inj hj
          · exfalso
            have lt : z0.2.2 < x0.2.2 := by
              have l1 := get_lt hz0
              have l2 := get_lt hj
              have := (List.pairwise_iff_getElem.mp hpw) 0 j l1 l2 (by omega)
              rw [Option.some.inj ((List.getElem?_eq_getElem l1).symm.trans hz0), Option.some.inj ((List.getElem?_eq_getElem l2).symm.trans hj)] at this
              exact this
            obtain ⟨q, hq⟩ := List.mem_iff_getElem?.mp (hp.mem_iff.mp (List.mem_of_getElem? hz0))
            have mn := olC_min CL 7 q (by have := get_lt hq; omega)
            rw [← ef, List.getD_eq_getElem?_getD, List.getD_eq_getElem?_getD, hx0, hq] at mn
            have mn : x0.2.2 ≤ z0.2.2 := mn
            omega
        subst e0
        have r := cRL_mv (y := (qn, n)) hp hx0 hz0 hpw hu hnd h8 (fun hin => hn ((List.eraseIdx_sublist _ _).subset hin))
        refine ⟨r, rfl, e2, fun z hz => ?_⟩
        rcases List.mem_or_eq_of_mem_set hz with h | h
        · exact Or.inl h
        · rw [h]; exact Or.inr ⟨rfl, rfl⟩
theorem caR_tkR {qn u tk : Nat} {ids : List Nat} {CL : List (Nat × Nat × Nat)} {R : List (Nat × Nat)} (h : cRL CL u R) : ∀ (k : Nat) (c : List (Nat × Nat × Nat) × Nat × Nat) (r : List (Nat × Nat) × Nat), caR qn ids k (CL, u, tk) c → tkR qn ids k (R, tk) r → cRL c.1 c.2.1 r.1 ∧ c.2.2 = r.2 ∧ c.2.1 = u + k ∧ ∀ x, x ∈ c.1 → x ∈ CL ∨ (x.1 = qn ∧ x.2.1 ∈ ids)
  | 0, c, r, hc, hr => by
    have hc : c = (CL, u, tk) := hc
    have hr : r = (R, tk) := hr
    subst hc hr
    exact ⟨h, rfl, rfl, fun x hx => Or.inl hx⟩
  | k + 1, c, r, hc, hr => by
    obtain ⟨c1, hc1, n, hn, hs⟩ := hc
    obtain ⟨r1, hr1, n', b, hn', ht, e⟩ := hr
    rw [hn] at hn'
    obtain rfl := Option.some.inj hn'
    obtain ⟨a1, a2, a3, a4⟩ := caR_tkR h k c1 r1 hc1 hr1
    obtain ⟨C1, u1, t1⟩ := c1
    obtain ⟨C2, u2, t2⟩ := c
    obtain ⟨b1, b2, b3, b4⟩ := cRL_step a1 hs ht
    have a2 : t1 = r1.2 := a2
    have a3 : u1 = u + k := a3
    refine ⟨b1, ?_, ?_, fun x hx => ?_⟩
    · show t2 = r.2
      rw [b3, e, a2]
    · show u2 = u + (k + 1)
      omega
    · rcases b4 x hx with h | ⟨h1, h2⟩
      · exact a4 x h
      · exact Or.inr ⟨h1, by rw [h2]; exact List.mem_of_getElem? hn⟩
section CASN
variable {S T U S8 : cS} {v v' : Nat → Int32} {f f' : Nat → Nat → Int32} {g g' : Nat → Nat → Int64} {dp x out k cd dd L : Nat} {x4 : Int32} {xs : Nat → Int32} {R : Int32 → Nat → Nat → cS → (Nat → Int32) → (Nat → Nat → Int32) → (Nat → Nat → Int64) → Prop}
theorem lc_45 (hI : Rel k S dp x out v f g cd dd) (hk : k < 512) (hx4 : x4 = nI (6 * k)) (hL : 6 * k + 6 ≤ L) (hL2 : L ≤ 3072) (hN : nxR R k dp x out x4) : lw_c45 R xs L dp x out x4 cd dd S v f g := by
  have vp1 := vp6 hx4 hL hL2 (show 1 < 6 by decide)
  have vp2 := vp6 hx4 hL hL2 (show 2 < 6 by decide)
  have vp3 := vp6 hx4 hL hL2 (show 3 < 6 by decide)
  unfold lw_c45
  obtain ⟨y1, ey1⟩ : ∃ y1, y1 = xs (x4 + nI 1).toNatClampNeg := ⟨_, rfl⟩
  rw [← ey1]
  obtain ⟨y2, ey2⟩ : ∃ y2, y2 = xs (x4 + nI 2).toNatClampNeg := ⟨_, rfl⟩
  rw [← ey2]
  obtain ⟨y3, ey3⟩ : ∃ y3, y3 = xs (x4 + nI 3).toNatClampNeg := ⟨_, rfl⟩
  rw [← ey3]
  have hx6 := Rel_x (t := nI 1) (mc := 1) (ms := 6) (by decide) (by decide) hI
  have bd := Rel_bd (by omega) hx6
  have bd0 := Rel_bd (by omega) hI
  obtain ⟨ρ, WL, n, P, ks, A, yn, F, G, ad, c0, c1, n0, P0, n1, P1, hl, hr⟩ := id hI
  obtain ⟨o, so, sd, sg, made, B, ix, mg, cm, pr, sn, op, fi, w, cc, off, dn, hd, sl, m, nd, qs, w0, w1, H, sk, tk, CL, u, RR, ⟨a1, a2⟩, ⟨a3, a4⟩, ⟨a5, a6⟩, a7, a8, a9, b1, b2, b3, b7, b8⟩ := id hr
  obtain ⟨⟨i98, i97, i96, i39, i48⟩, iB, iS, iX, iM, iC, iP, iK, iZ, iW⟩ := id a7
  obtain ⟨⟨p1, p2, p3, p4, p5⟩, p6, p7, ⟨p8, p8b, p8c, p8d⟩, p9, p10, p11, p12, p13, p14⟩ := id b1
  have hlg := rL_lg hl.2.1
  have hpw := hl.2.1.1
  have hok : fiOk sg made sn qs w0 w1 := ⟨fun n hn => rSg_tkW iS p13 hn, by have := p14.1; omega, fun s hs => by have := vG_len (p5 s hs) (fun n hn => rSg_key iS (a2.2.2.2.2 s hs n hn)); omega, fun e he => (b2.2.2.2.2 e he).1, b3.1.1, b3.1.2⟩
  have hT : ∀ a s, a < 5 → sl a = some s → allN sg s.2.2 s.2.1 ≤ 600 := fun a s ha hs => hok.2.2.1 s ((sn_ex p8).mpr ⟨a, ha, hs⟩)
  have b31 : ∀ s, s ∈ sn → s.1 < 2 ^ 30 := fun s hs => by have := p8c s hs; omega
  have q40 := a8.2.1.2.1
  have hx61 := Rel_x (t := nI 1) (mc := 1) (ms := 6) (by decide) (by decide) hI
  have hx62 := Rel_x (t := nI 2) (mc := 1) (ms := 6) (by decide) (by decide) hI
  have bd2 := Rel_bd (by omega) hx61
  refine ⟨vp1, vp2, vp3, 1, 6, bd2, ?_⟩
  unfold kw_L_find
  rcases ask_dec (qs := qs) (x := y1) (y := y2) p8 with ⟨nA, hno⟩ | ⟨s, q, e, hs, ex, he, ey⟩
  · rcases id hno with hno1 | ⟨hex, hno1⟩
    · exact ⟨hl.1.1, Or.inr (Or.inl ⟨1, 6, by omega, x_findS a1 hno1 (by omega) (by omega) ⟨by omega, vp1, vp2, vp3, bd2, p_find hlg p13 hpw iS iK hT a8.2.1 b2.2.2.2.2 a9.1.1 a9.1.2 b3.1 a9.2.2.2.2 (fun _ => tl_x (by decide) bd2 upd_at (hN _ _ _ _ _ _ hx61)) (fun _ _ _ _ _ _ => tl_x (by decide) bd2 upd_at (hN _ _ _ _ _ _ hx61)) (fun a s q e h1 h2 h3 h4 h5 => (nA_no (x := y1) (y := y2) p8b p8 hno ⟨h1, h2, h3, h4, h5⟩).elim) (fun a s q e mo h1 h2 h3 h4 h5 => (nA_no (x := y1) (y := y2) p8b p8 hno ⟨h1, h2, h3, h4, h5⟩).elim)⟩⟩)⟩
    · exact ⟨hl.1.1, Or.inr (Or.inl ⟨1, 6, by omega, x_findQ a1 a4 hex hno1 (by omega) (by omega) ⟨by omega, vp1, vp2, vp3, bd2, p_find hlg p13 hpw iS iK hT a8.2.1 b2.2.2.2.2 a9.1.1 a9.1.2 b3.1 a9.2.2.2.2 (fun _ => tl_x (by decide) bd2 upd_at (hN _ _ _ _ _ _ hx61)) (fun _ _ _ _ _ _ => tl_x (by decide) bd2 upd_at (hN _ _ _ _ _ _ hx61)) (fun a s q e h1 h2 h3 h4 h5 => (nA_no (x := y1) (y := y2) p8b p8 hno ⟨h1, h2, h3, h4, h5⟩).elim) (fun a s q e mo h1 h2 h3 h4 h5 => (nA_no (x := y1) (y := y2) p8b p8 hno ⟨h1, h2, h3, h4, h5⟩).elim)⟩⟩)⟩
  · have hq40 := get_lt he
    subst ey
    have no1 : ¬ ∀ k s, k < 5 → sl k = some s → nI s.1 ≠ y1 := fun w => by
      obtain ⟨a, ha, hsl⟩ := (sn_ex p8).mp hs
      exact w a s ha hsl ex
    by_cases hy : ∃ c, 1 ≤ c ∧ c ≤ 20 ∧ y3 = nI c
    · obtain ⟨c, c1', c20, rfl⟩ := hy
      have hu : u < 2 ^ 29 := by have := b3.2.2.2; omega
      refine ⟨hl.1.1, Or.inl ⟨by omega, ?_⟩⟩
      refine g_find a1 a2 a4 a5 a6 hok ⟨s, hs, ex⟩ he ⟨c1', c20⟩ hu (by omega) (fun T s2 cc2 hs2 ex2 fT gR gF hca => cls_out (by omega) (out_fr fT.1 (by decide) o) (fun S8 f90 o8 j8 => ⟨vp1, vp2, vp3, bd2, ?_⟩))
      have e1 : s2 = s := sn_uq p8b hs2 hs ((nI_eq (by have := b31 s2 hs2; omega) (by have := b31 s hs; omega)).mp (ex2.trans ex.symm))
      subst e1
      refine p_find hlg p13 hpw iS iK hT a8.2.1 b2.2.2.2.2 a9.1.1 a9.1.2 b3.1 a9.2.2.2.2 (fun w => absurd w no1) (fun a s' _ _ _ w => absurd rfl (w q hq40)) (fun a s' q' e' _ _ _ _ _ w => absurd rfl (w c c1' c20)) (fun a s' q' e' mo h1 h2 h3 h4 h5 h6 _ _ v' f' r hv h99 hf htk hRc h90 hH h89 => ?_)
      obtain rfl : c = mo := (nI_eq (by omega) (by omega)).mp h6
      obtain ⟨rfl, rfl, rfl⟩ := isA_un p8 p8b b31 q40 hs ex he rfl ⟨h1, h2, h3, h4, h5⟩
      obtain ⟨k1, k2, k3, k4⟩ := caR_tkR b3.2.1 _ _ _ hca htk
      have l200 : s'.2.1.length ≤ 200 := ((iK a h1).2 s' h2).2.2.1
      have hF : rF [99, 60, 85, 88, 89, 90] [38, 52, 53, 54, 55, 56, 57, 58, 59, 60] [] v f g v' f' g := ⟨hv, hf, fun _ _ => rfl⟩
      have hrel : Rel (k + 1) S8 dp x out v' f' g (cd + 1) (dd + 6) := Rel_F (mc := 1) (ms := 6) hl a1 a2 a3 a4 a7 a8 b1 b2 b7 b8 fT (fun _ _ => rfl) (by decide) gR gF f90 o8 hF (by decide) (by decide) (by decide) ⟨by rw [hf 49 (by decide)]; exact a9.1, hH, h89, by rw [k2]; exact h90, hRc⟩ ⟨b3.1, k1, fun z hz => by
        rcases k4 z hz with w | ⟨w1', w2'⟩
        · exact b3.2.2.1 z w
        · exact ⟨by rw [w1']; exact hq40, a2.2.2.2.2 s' hs2 _ w2'⟩, by rw [k3]; have := b3.2.2.2; omega⟩ (by decide) (by decide)
      exact tl_ok bd2 h99 (out_X o8) j8 (hN _ _ _ _ _ _ hrel)
    · have hno : ∀ c, 1 ≤ c → c ≤ 20 → y3 ≠ nI c := fun c a b d => hy ⟨c, a, b, d⟩
      refine ⟨hl.1.1, Or.inr (Or.inr ⟨1, 6, by omega, x_findA a1 a4 ⟨s, hs, ex⟩ he hno (by omega) (by omega) ⟨by omega, vp1, vp2, vp3, bd2, ?_⟩⟩)⟩
      exact p_find hlg p13 hpw iS iK hT a8.2.1 b2.2.2.2.2 a9.1.1 a9.1.2 b3.1 a9.2.2.2.2 (fun w => absurd w no1) (fun a s' _ _ _ w => absurd rfl (w q hq40)) (fun a s' q' e' _ _ _ _ _ w => tl_x (by decide) bd2 upd_at (hN _ _ _ _ _ _ hx62)) (fun a s' q' e' mo h1 h2 h3 h4 h5 h6 m1 m2 => absurd h6 (hno mo m1 m2))
end CASN
