/-! both worlds together: delete -/
theorem dkR_fn {sg : Nat → List Dc} {ids : List Nat} {key : Nat} {B B1 B2 : List Dc} {lv lv1 lv2 : Nat → Nat → Bool} {b1 b2 : Bool} (hk : key < 100) (hb : ∀ d, d ∈ B → dK d < 100) (hs : ∀ n, n ∈ ids → ∀ d, d ∈ sg n → dK d < 100) (hub : ∀ (i i' : Nat) (d d' : Dc), B[i]? = some d → B[i']? = some d' → dK d = dK d' → i = i') (hu : oneK sg ids lv key) (h1 : dkR sg ids (nI key) B lv B1 lv1 b1) (h2 : dkR sg ids (nI key) B lv B2 lv2 b2) : B1 = B2 ∧ lv1 = lv2 ∧ b1 = b2 := by
  have inj : ∀ {a : Nat}, a < 100 → nI a = nI key → a = key := fun ha e => (nI_eq (by omega) (by omega)).mp e
  rcases h1 with ⟨i, d, e1, e2, e3, e4, e5⟩ | ⟨e0, e3, h1⟩
  · rcases h2 with ⟨i', d', f1, f2, f3, f4, f5⟩ | ⟨f0, -⟩
    · have : i = i' := hub i i' d d' e1 f1 ((inj (hb d (List.mem_of_getElem? e1)) e2).trans (inj (hb d' (List.mem_of_getElem? f1)) f2).symm)
      subst this
      exact ⟨e3.trans f3.symm, e4.trans f4.symm, e5.trans f5.symm⟩
    · exact absurd e2 (f0 d (List.mem_of_getElem? e1))
  · rcases h2 with ⟨i', d', f1, f2, -⟩ | ⟨f0, f3, h2⟩
    · exact absurd f2 (e0 d' (List.mem_of_getElem? f1))
    · rcases h1 with ⟨n, j, d, g1, g2, g3, g4, g5, g6⟩ | ⟨g0, g5, g6⟩
      · rcases h2 with ⟨n', j', d', k1, k2, k3, k4, k5, k6⟩ | ⟨k0, -⟩
        · have := hu n j d n' j' d' g1 k1 g2 k2 g3 k3 (inj (hs n g1 d (List.mem_of_getElem? g2)) g4) (inj (hs n' k1 d' (List.mem_of_getElem? k2)) k4)
          obtain ⟨rfl, rfl⟩ := this
          exact ⟨e3.trans f3.symm, g5.trans k5.symm, g6.trans k6.symm⟩
        · exact absurd g4 (k0 n j d g1 g2 g3)
      · rcases h2 with ⟨n', j', d', k1, k2, k3, k4, -⟩ | ⟨-, k5, k6⟩
        · exact absurd k4 (g0 n' j' d' k1 k2 k3)
        · exact ⟨e3.trans f3.symm, g5.trans k5.symm, g6.trans k6.symm⟩
/-- what a deletion leaves is part of what was -/
theorem dkR_sub {sg : Nat → List Dc} {ids : List Nat} {key : Int32} {B B' : List Dc} {lv lv' : Nat → Nat → Bool} {b : Bool} (h : dkR sg ids key B lv B' lv' b) : (∀ d, d ∈ B' → d ∈ B) ∧ B'.length ≤ B.length ∧ (∀ n j, lv' n j = true → lv n j = true) ∧ ((∀ (i i' : Nat) (d d' : Dc), B[i]? = some d → B[i']? = some d' → dK d = dK d' → i = i') → ∀ (i i' : Nat) (d d' : Dc), B'[i]? = some d → B'[i']? = some d' → dK d = dK d' → i = i') := by
  rcases h with ⟨i, d, e1, e2, rfl, rfl, e5⟩ | ⟨e0, rfl, h1⟩
  · refine ⟨fun d hd => List.mem_of_mem_eraseIdx hd, by rw [er_len]; split <;> omega, fun _ _ h => h, fun hub a a' d d' h1 h2 h3 => ?_⟩
    rw [er_get] at h1 h2
    split at h1 <;> split at h2
    · exact hub a a' d d' h1 h2 h3
    · have := hub a (a' + 1) d d' h1 h2 h3; omega
    · have := hub (a + 1) a' d d' h1 h2 h3; omega
    · have := hub (a + 1) (a' + 1) d d' h1 h2 h3; omega
  · refine ⟨fun _ h => h, Nat.le_refl _, fun n j hh => ?_, fun h => h⟩
    rcases h1 with ⟨n', j', d, -, -, -, -, rfl, -⟩ | ⟨-, rfl, -⟩
    · have hh : (if n = n' ∧ j = j' then false else lv n j) = true := hh
      split at hh
      · exact absurd hh (by decide)
      · exact hh
    · exact hh
section CASJ
variable {S T U S8 : cS} {v v' : Nat → Int32} {f f' : Nat → Nat → Int32} {g g' : Nat → Nat → Int64} {dp x out k cd dd L : Nat} {x4 : Int32} {xs : Nat → Int32} {R : Int32 → Nat → Nat → cS → (Nat → Int32) → (Nat → Nat → Int32) → (Nat → Nat → Int64) → Prop}
theorem rBf_key {l : LGt} {B : List Dc} (h : rBf l v f g B) : ∀ d, d ∈ B → dK d < 100 := fun d hd => by
  obtain ⟨j, hj⟩ := List.mem_iff_getElem?.mp hd
  exact (h.2.2 j d hj).1.2
theorem lc_7 (hI : Rel k S dp x out v f g cd dd) (hk : k < 512) (hx4 : x4 = nI (6 * k)) (hL : 6 * k + 6 ≤ L) (hL2 : L ≤ 3072) (hN : nxR R k dp x out x4) : lw_c7 R xs L dp x out x4 cd dd S v f g := by
  have vp1 := vp6 hx4 hL hL2 (show 1 < 6 by decide)
  unfold lw_c7
  obtain ⟨y1, ey1⟩ : ∃ y1, y1 = xs (x4 + nI 1).toNatClampNeg := ⟨_, rfl⟩
  rw [← ey1]
  have hx6 := Rel_x (t := nI 1) (mc := 1) (ms := 6) (by decide) (by decide) hI
  have bd := Rel_bd (by omega) hx6
  have bd0 := Rel_bd (by omega) hI
  obtain ⟨ρ, WL, n, P, ks, A, yn, F, G, ad, c0, c1, n0, P0, n1, P1, hl, hr⟩ := id hI
  obtain ⟨o, so, sd, sg, made, B, ix, mg, cm, pr, sn, op, fi, w, cc, off, dn, hd, sl, m, nd, qs, w0, w1, H, sk, tk, CL, u, RR, ⟨a1, a2⟩, ⟨a3, a4⟩, ⟨a5, a6⟩, a7, a8, a9, b1, b2, b3, b7, b8⟩ := id hr
  obtain ⟨⟨i98, i97, i96, i39, i48⟩, iB, iS, iX, iM, iC, iP, iK, iZ, iW⟩ := id a7
  obtain ⟨⟨p1, p2, p3, p4, p5⟩, p6, p7, ⟨p8, p8b, p8c, p8d⟩, p9, p10, p11, p12, p13, p14⟩ := id b1
  have hx62 := Rel_x (t := nI 2) (mc := 1) (ms := 6) (by decide) (by decide) hI
  refine ⟨vp1, 1, 6, bd, ?_⟩
  unfold kw_L_delete kw_L_delete_15
  by_cases hy : ∃ a, a < 100 ∧ y1 = nI a
  · obtain ⟨a, ha, rfl⟩ := hy
    have hin : inB (nI a) (nI 0) (nI 99) = true := (inB_ex (by decide) (by decide)).mpr ⟨a, Nat.zero_le _, by omega, rfl⟩
    cases off with
    | true =>
      refine ⟨hl.1.1, Or.inr (Or.inr ⟨1, 6, by omega, x_deleteS a1 ha (by omega) (by omega) ⟨by omega, vp1, bd, ?_⟩⟩)⟩
      exact p_delete i98 iB iS iX p1.2 p6.1 p6.2 (fun w => by rw [hin] at w; exact absurd w (by decide)) (fun _ _ => tl_x (by decide) bd upd_at (hN _ _ _ _ _ _ hx62)) (fun key v' f' g' B' lv' b _ _ w => absurd w (by decide))
    | false =>
      have cls : ∀ (b : Bool) (Q : cS → Prop) (T : cS) (ρ' : Nat → Nat) (C : Prop), C → (cA T out 15 ∧ cn T out = 1 ∧ ρ' out = 90) → (∀ S8, fr T S8 ρ' ρ' [90] → (cA S8 out 15 ∧ cn S8 out = 1 ∧ ρ' out = 90) → cJ S8 out (nI 0).toNatClampNeg = (if b = true then 1 else 0) → Q S8) → ((bI b = 0 → cX T out 15 (nI 0) ∧ ∀ S10 : cS, S10 = cSJ T out (nI 0).toNatClampNeg 0 → C ∧ Q S10) ∧ (¬ bI b = 0 → cX T out 15 (nI 0) ∧ ∀ S10 : cS, S10 = cSJ T out (nI 0).toNatClampNeg 1 → C ∧ Q S10)) := by
        intro b Q T ρ' C hC oT h
        cases b with
        | false => exact ⟨fun _ => cls_out hC oT (fun S8 h1 h2 h3 => h S8 h1 h2 h3), fun w => absurd rfl w⟩
        | true => exact ⟨fun w => absurd w (by decide), fun _ => cls_out hC oT (fun S8 h1 h2 h3 => h S8 h1 h2 h3)⟩
      refine ⟨hl.1.1, Or.inl ⟨by omega, g_delete a1 a2 p1.1 ha (fun T ρ' B' lv' b eT hdk gT => cls b _ T ρ' _ ⟨by omega, by omega⟩ (out_fr eT.1 (by decide) o) (fun S8 f90 o8 j8 => ⟨vp1, bd, ?_⟩))⟩⟩
      refine p_delete i98 iB iS iX p1.2 p6.1 p6.2 (fun w => by rw [hin] at w; exact absurd w (by decide)) (fun _ w => absurd w (by decide)) (fun key v' f' g' B2 lv2 b2 e ek _ hF hz h99 hB' hX' hdk2 => ?_)
      obtain rfl : a = key := (nI_eq (by omega) (by omega)).mp e
      obtain ⟨rfl, rfl, rfl⟩ := dkR_fn ha (rBf_key iB) (fun n hn => rSg_key iS (a2.1 n hn)) p6.1 (p1.2 a) hdk hdk2
      obtain ⟨s1, s2, s3, s4⟩ := dkR_sub hdk
      have hrel : Rel (k + 1) S8 dp x out v' f' g' (cd + 1) (dd + 6) := Rel_I (ix' := (ix.1, lv')) (B' := B') hl a3 a4 a5 a6 a8 a9 b2 b3 eT gT ⟨a2.1, a2.2.1, a2.2.2.1, a2.2.2.2.1, a2.2.2.2.2⟩ f90 o8 hF (by decide) (by decide) (by decide) ⟨⟨by rw [hF.1 98 (by decide)]; exact i98, fun q => by rw [hF.1 97 (by decide)]; exact i97 q, by rw [hF.1 96 (by decide)]; exact i96, by rw [hF.1 39 (by decide)]; exact i39, by rw [hF.1 48 (by decide)]; exact i48⟩, hB', rS_f hF (by decide) (by decide) (by decide) iS, hX', rM_f hF (by decide) (by decide) iM, rC_f hF (by decide) (by decide) iC, rP_f hF (by decide) (by decide) iP, rK_f hF (by decide) iK, ⟨fun c hc => hz c (iZ.1 c hc), rZ_f hF (by decide) iZ.2.1, rZ_f hF (by decide) iZ.2.2.1, rZ_f hF (by decide) iZ.2.2.2.1, rZ_f hF (by decide) iZ.2.2.2.2⟩, rW_f (ix := (ix.1, lv')) hF (by decide) iW⟩ ⟨⟨⟨p1.1, fun key n j d n' j' d' h1 h2 h3 h4 h5 h6 => p1.2 key n j d n' j' d' h1 h2 h3 h4 (s3 n j h5) (s3 n' j' h6)⟩, p2, p3, p4, p5⟩, ⟨s4 p6.1, fun d hd n j d' h1 h2 h3 => p6.2 d (s1 d hd) n j d' h1 h2 (s3 n j h3)⟩, p7, ⟨p8, p8b, p8c, by omega⟩, fun w => absurd w (by decide), p10, fun z => ⟨List.eq_nil_of_length_eq_zero (by have := (p11 z).1; rw [this] at s2; exact Nat.le_zero.mp s2), (p11 z).2⟩, ⟨p12.1, fun d hd => p12.2 d (s1 d hd)⟩, p13, p14.1, by have := p14.2; omega⟩ (fun _ _ => rfl) (Nat.le_refl _) (by omega) (by omega)
      refine ⟨bd, p_thrown ⟨h99, fun w => absurd rfl w, fun _ => ⟨out_X o8, ?_⟩⟩⟩
      cases b with
      | false => exact ⟨fun _ => ⟨j8, tail_ok hN hrel⟩, fun w => absurd rfl w⟩
      | true => exact ⟨fun w => absurd w (by decide), fun _ => ⟨j8, tail_ok hN hrel⟩⟩
  · have hno : ∀ a, a < 100 → y1 ≠ nI a := fun a h1 h2 => hy ⟨a, h1, h2⟩
    refine ⟨hl.1.1, Or.inr (Or.inl ⟨1, 6, by omega, x_deleteK hno (by omega) (by omega) ⟨by omega, vp1, bd, ?_⟩⟩)⟩
    have hin : inB y1 (nI 0) (nI 99) = false := by
      cases e : inB y1 (nI 0) (nI 99) with
      | false => rfl
      | true =>
        obtain ⟨a, -, h2, h3⟩ := (inB_ex (by decide) (by decide)).mp e
        exact absurd h3 (hno a (by omega))
    exact p_delete i98 iB iS iX p1.2 p6.1 p6.2 (fun _ => tl_x (by decide) bd upd_at (hN _ _ _ _ _ _ hx6)) (fun w => by rw [hin] at w; exact absurd w (by decide)) (fun key v' f' g' B' lv' b e ek => absurd e (hno key ek))
end CASJ
