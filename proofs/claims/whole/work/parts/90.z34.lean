/-! both worlds together: synonym, text, columns -/
section CASD
variable {S T : cS} {ρ ρ' : Nat → Nat} {M Am Fm Gm : List Nat} {v v' : Nat → Int32} {f f' : Nat → Nat → Int32} {g g' : Nat → Nat → Int64} {dp x out k cd dd L : Nat} {x4 : Int32} {xs : Nat → Int32} {R : Int32 → Nat → Nat → cS → (Nat → Int32) → (Nat → Nat → Int32) → (Nat → Nat → Int64) → Prop}
variable {n : Nat} {P : Nat → Nat} {ks : Nat} {A : Nat → Int64} {yn : Nat} {F G : Nat → Int64} {ad : Bool} {c0 c1 n0 : Nat} {P0 : Nat → Nat} {n1 : Nat} {P1 : Nat → Nat}
theorem Rest_bd {l : LGt} {WL : List Int64} {mc ms : Nat} (hk : k < 512) (hm : mc ≤ 1170) (hs : ms ≤ 13440) (hr : Rest l ad k WL S ρ dp x out v f g cd dd) : cd + mc ≤ 601024 ∧ dd + ms ≤ 7293033 := by
  obtain ⟨-, so, sd, sg, made, B, ix, mg, cm, pr, sn, op, fi, w, cc, off, dn, hd, sl, m, nd, qs, w0, w1, H, sk, tk, CL, u, R, -, -, -, -, -, -, -, -, -, b7, b8⟩ := hr
  omega
theorem stW_37 (w : Nat) (h : w < 37 ^ 12) : stW w < 37 ^ 12 := Nat.lt_of_le_of_lt (stW_le w) h
theorem lc_3 (hI : Rel k S dp x out v f g cd dd) (hk : k < 512) (hN : nxR R k dp x out x4) : lw_c3 R xs L dp x out x4 cd dd S v f g := by
  obtain ⟨ρ, WL, n, P, ks, A, yn, F, G, ad, c0, c1, n0, P0, n1, P1, hl, hr⟩ := id hI
  obtain ⟨l1, l2, l3, l4, l5, l6⟩ := id hl
  obtain ⟨m1, ⟨m2, m3, m4⟩, ⟨m5, m6, m7⟩, ⟨m8, m9, m10, m11⟩, m12, -⟩ := id l2
  have bd := Rest_bd (mc := 45) (ms := 45) hk (by decide) (by decide) hr
  unfold lw_c3
  refine ⟨45, 45, bd, ?_⟩
  unfold kw_L_synonym
  by_cases cc : wdC P n = 2 ∧ yn < 10 ∧ ad = false
  · obtain ⟨q1, q2, q3⟩ := id cc
    subst q3
    refine ⟨l1.1, Or.inl ⟨4, 45, by omega, by omega, g_synonym (P' := P) l1 q1 q2 rfl (Nat.le_refl _) (Nat.le_refl _) (fun T ρ' fT gT => cls_out (by omega) (out_fr fT (by decide) hr.1) (fun S8 f90 o8 j8 => ⟨bd, ?_⟩))⟩⟩
    have fS : fr S S8 ρ ρ' [2, 3, 90] := fr_mix (fr_up fT (by decide)) (fr_up f90 (by decide))
    have l6' : ∀ i, i < yn + 1 → ∃ w, w < 37 ^ 12 ∧ upR G yn (lN (stW (wdW P n 1))) i = lN w := fun i hi => by
      by_cases ci : i = yn
      · rw [ci, upR_s]; exact ⟨_, stW_37 _ (wdW_lt P n 1), rfl⟩
      · rw [upR_n ci]; exact l6 i (by omega)
    refine p_synonym m1 m3 m2 m4 m9 m8 m12 (fun r w => absurd ⟨q1, q2, rfl⟩ w) (fun r _ _ _ => ?_)
    rw [m10, m11]
    obtain ⟨v', hv'⟩ : ∃ v', v' = upd (upd (upd (upd v 4 (nI 2)) 99 (nI 0)) 9 (nI (yn + 1))) 2 (nI 0) := ⟨_, rfl⟩
    obtain ⟨g', hg'⟩ : ∃ g', g' = sR (sR (sR g 3 r) 5 (upR F yn (lN (stW (wdW P n 0))))) 6 (upR G yn (lN (stW (wdW P n 1)))) := ⟨_, rfl⟩
    have hF : rF [4, 99, 9, 2] [] [3, 5, 6] v f g v' f g' := ⟨fun i hi => by rw [hv', upd_n (fun e => hi (by rw [e]; decide)), upd_n (fun e => hi (by rw [e]; decide)), upd_n (fun e => hi (by rw [e]; decide)), upd_n (fun e => hi (by rw [e]; decide))], fun _ _ => rfl, fun m hm => by rw [hg', sR_n (fun e => hm (by rw [e]; decide)), sR_n (fun e => hm (by rw [e]; decide)), sR_n (fun e => hm (by rw [e]; decide))]⟩
    rw [← hv', ← hg']
    have hrel : Rel (k + 1) S8 dp x out v' f g' (cd + 45) (dd + 45) := Rel_L fS (by decide) o8 hF (by decide) (by decide) (by decide) (fun _ z => z) (by decide) (by decide) (Rest_lang (l' := lgT ks A (yn + 1) (upR F yn (lN (stW (wdW P n 0)))) (upR G yn (lN (stW (wdW P n 1))))) (fun i hi => l6' i hi) hr) ⟨gLD_90 f90 gT, rL_new hF (by decide) (by decide) (by decide) ⟨by rw [hv', upd_at], by omega, fun j hj => absurd hj (Nat.not_lt_zero j)⟩ ⟨by rw [hF.1 6 (by decide)]; exact m5, m6, by rw [hF.2.2 4 (by decide)]; exact m7⟩ ⟨by rw [hv', upd_n (by decide), upd_at], by omega, by rw [hg', sR_n (by decide), sR_s], by rw [hg', sR_s]⟩ l2, by omega, l4, l5, l6'⟩
    exact tl_ok bd (by rw [hv', upd_n (by decide), upd_n (by decide), upd_at]) (out_X o8) j8 (hN _ _ _ _ _ _ hrel)
  · refine ⟨l1.1, Or.inr ⟨45, 45, by omega, x_synonym l1 cc (by omega) (by omega) (fun T fT gT => ⟨by omega, bd, ?_⟩)⟩⟩
    refine p_synonym m1 m3 m2 m4 m9 m8 m12 (fun r _ => ?_) (fun r w1 w2 w3 => absurd ⟨w1, w2, w3⟩ cc)
    obtain ⟨v', hv'⟩ : ∃ v', v' = upd (upd v 4 (nI (wdC P n))) 99 (nI 1) := ⟨_, rfl⟩
    obtain ⟨g', hg'⟩ : ∃ g', g' = sR g 3 r := ⟨_, rfl⟩
    have hF : rF [4, 99] [] [3] v f g v' f g' := ⟨fun i hi => by rw [hv', upd_n (fun e => hi (by rw [e]; decide)), upd_n (fun e => hi (by rw [e]; decide))], fun _ _ => rfl, fun m hm => by rw [hg', sR_n (fun e => hm (by rw [e]; decide))]⟩
    rw [← hv', ← hg']
    have hrel : Rel (k + 1) T dp x out v' f g' (cd + 45) (dd + 45) := Rel_L fT (by decide) (out_fr fT (by decide) hr.1) hF (by decide) (by decide) (by decide) (fun _ z => z) (by decide) (by decide) hr ⟨gT, rL_fr hF (by decide) (by decide) (by decide) l2, by omega, l4, l5, l6⟩
    exact tl_x (by decide) bd (by rw [hv', upd_at]) (hN _ _ _ _ _ _ hrel)
/-- the words of a pad -/
noncomputable def wLs (n : Nat) (P : Nat → Nat) : List Int64 := (List.range (wdC P n)).map (fun j => lN (stW (wdW P n j)))
theorem wLs_in {WL : List Int64} : wIn (WL ++ wLs n P) n P := fun j hj => List.mem_append.mpr (Or.inr (List.mem_map.mpr ⟨j, List.mem_range.mpr hj, rfl⟩))
theorem wIn_app {WL W2 : List Int64} (h : wIn WL n P) : wIn (WL ++ W2) n P := fun j hj => List.mem_append.mpr (Or.inl (h j hj))
theorem gLD_n {c0 c1 : Int32} (g : gLD S ρ x n P ks A yn F G ad c0 c1 n0 P0 n1 P1) : n0 ≤ 40 ∧ n1 ≤ 40 := by
  obtain ⟨-, -, L, D, p, -, -, -, -, -, ⟨-, -, -, -, t0, t1, -, -, ⟨h0, -⟩, ⟨h1, -⟩⟩⟩ := g
  exact ⟨h0.2.1, h1.2.1⟩
theorem lc_4 (hI : Rel k S dp x out v f g cd dd) (hk : k < 512) (hx4 : x4 = nI (6 * k)) (hL : 6 * k + 6 ≤ L) (hL2 : L ≤ 3072) (hN : nxR R k dp x out x4) : lw_c4 R xs L dp x out x4 cd dd S v f g := by
  have vp1 := vp6 hx4 hL hL2 (show 1 < 6 by decide)
  unfold lw_c4
  obtain ⟨y, ey⟩ : ∃ y, y = xs (x4 + nI 1).toNatClampNeg := ⟨_, rfl⟩
  rw [← ey]
  have hx6 := Rel_x (t := nI 1) (mc := 226) (ms := 1821) (by decide) (by decide) hI
  have bd := Rel_bd (by omega) hx6
  obtain ⟨ρ, WL, n, P, ks, A, yn, F, G, ad, c0, c1, n0, P0, n1, P1, hl, hr⟩ := id hI
  obtain ⟨l1, l2, l3, l4, l5, l6⟩ := id hl
  obtain ⟨m1, ⟨m2, m3, m4⟩, ⟨m5, m6, m7⟩, ⟨m8, m9, m10, m11⟩, m12, m13, m14, m15, m16⟩ := id l2
  refine ⟨vp1, 226, 1821, bd, ?_⟩
  unfold kw_L_text
  by_cases hy : ∃ a, a < 2 ∧ y = nI a
  · obtain ⟨a, a2, rfl⟩ := hy
    have hw := wdC_le P n
    obtain ⟨n40, n41⟩ := gLD_n l1
    have w0' := wdC_le P0 n0
    have w1' := wdC_le P1 n1
    refine ⟨l1.1, Or.inl ⟨226, 1821, by omega, by omega, g_text (P' := P) l1 a2 (Nat.le_refl _) (Nat.le_refl _) (fun T ρ' fT gT => cls_out (by omega) (out_fr fT (by decide) hr.1) (fun S8 f90 o8 j8 => ⟨vp1, bd, ?_⟩))⟩⟩
    have fS : fr S S8 ρ ρ' [2, 3, 4, 5, 6, 90] := fr_mix (fr_up fT (by decide)) (fr_up f90 (by decide))
    refine p_text m1 m3 m2 m4 m6 m5 m9 m8 a2 (fun r r7 h7 h7o => ?_)
    rw [m7, m10, m11]
    obtain ⟨v', hv'⟩ : ∃ v', v' = upd (upd (upd v 99 (nI 0)) 4 (nI (wdC P n))) 2 (nI 0) := ⟨_, rfl⟩
    obtain ⟨f', hf'⟩ : ∃ f', f' = sR f 8 (upR (f 8) a (nI (wdC P n))) := ⟨_, rfl⟩
    obtain ⟨g', hg'⟩ : ∃ g', g' = sR (sR g 3 r) 7 r7 := ⟨_, rfl⟩
    have hF : rF [99, 4, 2] [8] [3, 7] v f g v' f' g' := ⟨fun i hi => by rw [hv', upd_n (fun e => hi (by rw [e]; decide)), upd_n (fun e => hi (by rw [e]; decide)), upd_n (fun e => hi (by rw [e]; decide))], fun m hm => by rw [hf', sR_n (fun e => hm (by rw [e]; decide))], fun m hm => by rw [hg', sR_n (fun e => hm (by rw [e]; decide)), sR_n (fun e => hm (by rw [e]; decide))]⟩
    rw [← hv', ← hf', ← hg']
    have f8 : ∀ fl, f' 8 fl = if fl = a then nI (wdC P n) else f 8 fl := fun fl => by rw [hf', sR_s]; rfl
    have g7 : g' 7 = r7 := by rw [hg', sR_s]
    have new : rD1 f' g' a n P := ⟨by rw [f8, if_pos rfl], fun j hj => by rw [g7]; exact h7 j hj⟩
    have old : ∀ fl nn PP, fl < 2 → fl ≠ a → wdC PP nn ≤ 20 → rD1 f g fl nn PP → rD1 f' g' fl nn PP := fun fl nn PP h1 h2 h3 h4 => ⟨by rw [f8, if_neg h2]; exact h4.1, fun j hj => by rw [g7, h7o (20 * fl + j) (by omega)]; exact h4.2 j hj⟩
    have rest := Rel_L (n := 0) (P := P) (c0 := c0) (c1 := c1) (n0 := if a = 0 then n else n0) (P0 := if a = 0 then P else P0) (n1 := if a = 0 then n1 else n) (P1 := if a = 0 then P1 else P) (WL' := WL ++ wLs n P) (v' := v') (mc := 226) (ms := 1821) fS (by decide) o8 hF (by decide) (by decide) (by decide) (fun _ z => List.mem_append.mpr (Or.inl z)) (by decide) (by decide) hr
    have hrel : Rel (k + 1) S8 dp x out v' f' g' (cd + 226) (dd + 1821) := by
      refine rest ⟨gLD_90 f90 gT, ?_, ?_, ?_, ?_, l6⟩
      · refine ⟨mPow_fr (hF.2.2 1 (by decide)) m1, ⟨by rw [hv', upd_at], by omega, fun j hj => absurd hj (Nat.not_lt_zero j)⟩, ⟨by rw [hF.1 6 (by decide)]; exact m5, m6, by rw [hF.2.2 4 (by decide)]; exact m7⟩, ⟨by rw [hF.1 9 (by decide)]; exact m8, m9, by rw [hF.2.2 5 (by decide)]; exact m10, by rw [hF.2.2 6 (by decide)]; exact m11⟩, by rw [hF.1 10 (by decide)]; exact m12, by rw [hF.1 13 (by decide)]; exact m13, by rw [hF.1 14 (by decide)]; exact m14, ?_, ?_⟩
        · by_cases c : a = 0
          · rw [if_pos c, if_pos c]
            have := new
            rwa [c] at this
          · rw [if_neg c, if_neg c]
            exact old 0 n0 P0 (by decide) (fun e => c e.symm) (by omega) m15
        · by_cases c : a = 0
          · rw [if_pos c, if_pos c]
            exact old 1 n1 P1 (by decide) (by omega) (by omega) m16
          · rw [if_neg c, if_neg c]
            have := new
            rwa [show a = 1 by omega] at this
      · rw [List.length_append]
        unfold wLs
        rw [List.length_map, List.length_range]
        omega
      · by_cases c : a = 0
        · rw [if_pos c, if_pos c]; exact wLs_in
        · rw [if_neg c, if_neg c]; exact wIn_app l4
      · by_cases c : a = 0
        · rw [if_pos c, if_pos c]; exact wIn_app l5
        · rw [if_neg c, if_neg c]; exact wLs_in
    exact tl_ok bd (by rw [hv', upd_n (by decide), upd_n (by decide), upd_at]) (out_X o8) j8 (hN _ _ _ _ _ _ hrel)
  · have hno : ∀ a, a < 2 → y ≠ nI a := fun a h1 h2 => hy ⟨a, h1, h2⟩
    refine ⟨l1.1, Or.inr ⟨226, 1821, by omega, x_text hno (by omega) (by omega) ⟨by omega, vp1, bd, ?_⟩⟩⟩
    exact p_textX hno (tl_x (by decide) bd upd_at (hN _ _ _ _ _ _ hx6))
theorem lc_5 (hI : Rel k S dp x out v f g cd dd) (hk : k < 512) (hx4 : x4 = nI (6 * k)) (hL : 6 * k + 6 ≤ L) (hL2 : L ≤ 3072) (hN : nxR R k dp x out x4) : lw_c5 R xs L dp x out x4 cd dd S v f g := by
  have vp1 := vp6 hx4 hL hL2 (show 1 < 6 by decide)
  have vp2 := vp6 hx4 hL hL2 (show 2 < 6 by decide)
  unfold lw_c5
  obtain ⟨y, ey⟩ : ∃ y, y = xs (x4 + nI 1).toNatClampNeg := ⟨_, rfl⟩
  obtain ⟨z, ez⟩ : ∃ z, z = xs (x4 + nI 2).toNatClampNeg := ⟨_, rfl⟩
  rw [← ey, ← ez]
  have hx6 := Rel_x (t := nI 1) (mc := 1) (ms := 6) (by decide) (by decide) hI
  have bd := Rel_bd (by omega) hx6
  obtain ⟨ρ, WL, n, P, ks, A, yn, F, G, ad, c0, c1, n0, P0, n1, P1, hl, hr⟩ := id hI
  obtain ⟨l1, l2, l3, l4, l5, l6⟩ := id hl
  obtain ⟨m1, m2, m5, m8, m12, m13, m14, m15, m16⟩ := id l2
  refine ⟨vp1, vp2, 1, 6, bd, ?_⟩
  unfold kw_L_columns
  by_cases hy : ∃ i j, i ≤ 9 ∧ j ≤ 999 ∧ y = nI i ∧ z = nI j
  · obtain ⟨i, j, i9, j9, rfl, rfl⟩ := hy
    refine ⟨l1.1, Or.inl ⟨by omega, g_columns l1 i9 j9 (fun T fT gT => ⟨by omega, vp1, vp2, bd, ?_⟩)⟩⟩
    have hin : (inB (nI i) (nI 0) (nI 9) && inB (nI j) (nI 0) (nI 999)) = true := by
      rw [(inB_ex (by decide) (by decide)).mpr ⟨i, Nat.zero_le _, i9, rfl⟩, (inB_ex (by decide) (by decide)).mpr ⟨j, Nat.zero_le _, j9, rfl⟩]; rfl
    refine p_columns (fun _ => ?_) (fun w => by rw [hin] at w; exact absurd w (by decide))
    obtain ⟨v', hv'⟩ : ∃ v', v' = upd (upd (upd v 99 (nI 0)) 13 (nI i)) 14 (nI j) := ⟨_, rfl⟩
    have hF : rF [99, 13, 14] [] [] v f g v' f g := ⟨fun i hi => by rw [hv', upd_n (fun e => hi (by rw [e]; decide)), upd_n (fun e => hi (by rw [e]; decide)), upd_n (fun e => hi (by rw [e]; decide))], fun _ _ => rfl, fun _ _ => rfl⟩
    rw [← hv']
    have hrel : Rel (k + 1) T dp x out v' f g (cd + 1) (dd + 6) := by
      refine Rel_L fT (by decide) (out_fr fT (by decide) hr.1) hF (by decide) (by decide) (by decide) (fun _ z => z) (by decide) (by decide) hr ⟨gT, ?_, by omega, l4, l5, l6⟩
      exact ⟨m1, by rw [hF.1 2 (by decide)]; exact m2, by rw [hF.1 6 (by decide)]; exact m5, by rw [hF.1 9 (by decide)]; exact m8, by rw [hF.1 10 (by decide)]; exact m12, ⟨by rw [hv', upd_n (by decide), upd_at], by omega⟩, ⟨by rw [hv', upd_at], by omega⟩, m15, m16⟩
    exact ⟨bd, p_thrown ⟨by rw [hv', upd_n (by decide), upd_n (by decide), upd_at], tail_ok hN hrel⟩⟩
  · refine ⟨l1.1, Or.inr ⟨1, 6, by omega, x_columns hy (by omega) (by omega) ⟨by omega, vp1, vp2, bd, ?_⟩⟩⟩
    refine p_columns (fun w => ?_) (fun _ => ⟨bd, p_thrown ⟨upd_at, tail_ok hN hx6⟩⟩)
    rw [Bool.and_eq_true] at w
    obtain ⟨i, -, h2, h3⟩ := (inB_ex (by decide) (by decide)).mp w.1
    obtain ⟨j, -, h5, h6⟩ := (inB_ex (by decide) (by decide)).mp w.2
    exact absurd ⟨i, j, h2, h5, h3, h6⟩ hy
end CASD
