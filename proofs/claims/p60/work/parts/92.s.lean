/-! the case of a snapshot given back -/
section LS6
variable {S V T : cS} {dp x k cd dd made : Nat} {ar : Nat → Nat} {sl : Nat → List Nat}
theorem up_0 {o1 o2 z : Option (Nat × Vw)} : upR (slO o1 o2) 0 z = slO z o2 := by
  funext k
  unfold upR slO
  by_cases c : k = 0
  · simp [c]
  · simp [c]
theorem up_1 {o1 o2 z : Option (Nat × Vw)} : upR (slO o1 o2) 1 z = slO o1 z := by
  funext k
  unfold upR slO
  by_cases c : k = 1
  · simp [c]
  · simp [c]
theorem fz_fi {sg : Nat → List Dc} {made : Nat} {ix : Vw} {mg : Option (Vw × Nat)} {cm pr : Option Vw} {sn : List (Nat × Vw)} {sl : Nat → Option (Nat × Vw)} (hp : sn.Perm ((List.range 5).filterMap sl)) (hM : ixM made ix mg cm pr sn) (hc : ∀ s, cm = some s → s.1.Nodup) (hpr : ∀ s, pr = some s → s.1.Nodup) (hl : ∀ n, n < made → (sg n).length < 100) : fiN sg ix mg cm pr sn = rfA (fz cm pr) sg made ix.1 mg cm pr sl := fiN_rfA hp hM hc hpr (fun s t n j hs ht hn hn' hj => by
  have := hl n (hM.2.2.1 s hs n hn)
  have e1 : (100 * n + j) / 100 = n := by omega
  have e2 : (100 * n + j) % 100 = j := by omega
  subst hs ht
  unfold fz
  rw [if_pos rfl, if_neg (by decide), e1, e2]
  exact ⟨rfl, rfl⟩)
theorem q_shutc {Q : Int32 → Int32 → Nat → Nat → cS → Prop} (h : R6 k S dp x ar cd dd) (hk : k ≤ 250) (hq : ¬ cI S (ar 9) (nI 0).toNatClampNeg ≤ 0) (hQ : ∀ m1 m2 r T, cd + m1 ≤ 500000 → dd + m2 ≤ 5000000 → R6 (k + 1) T dp x ar (cd + m1) (dd + m2) → Q r r m1 m2 T) : cX S (ar 9) 14 (nI 0) ∧ ∀ n, n = cI S (ar 9) (nI 0).toNatClampNeg - nI 1 → cX S (ar 9) 14 (nI 0) ∧ ∀ V, V = cSI S (ar 9) (nI 0).toNatClampNeg (nI 0) → cA V x 11 ∧ ∃ m1 m2, cd + m1 ≤ 500000 ∧ dd + m2 ≤ 5000000 ∧ k_X11_shut (fun r U => (cd + m1 ≤ 500000 ∧ dd + m2 ≤ 5000000) ∧ k_L_files (fun r' T => Q r r' m1 m2 T) dp (ar 3) (ar 6) (ar 7) (ar 8) (ar 9) (ar 10) (ar 15) U) dp m1 m2 x n V := by
  have bd := R6_bd hk (a := 1) (b := 206) (by decide) (by decide) h
  obtain ⟨ρ, ad, dn, made, sl, BL, ix, mg, cm, pr, sn, o1, o2, op, fi, w, cc, off, H, sk, tk, CL, u, R, hL, hC, hI, hT, hP, hF, hc1, hc2⟩ := id h
  obtain ⟨g1, g2, g3, g4, g5, g6, ⟨g7, g8, g9, g10⟩, g11, g12, g13⟩ := id hI
  obtain ⟨⟨p1, p2, p3, p4, p5⟩, p6, p7, ⟨p8, p8b, p8c, p8d⟩, p9, p10, p11, p12, p13, p14, p15⟩ := id hP
  rw [nI_x 0 (by decide)] at hq ⊢
  have c9 := lR_X g1 (i := 9) (by decide) (show 0 < 64 by decide)
  cases o1 with
  | none =>
    exact absurd (by rw [g9.2.1.1]; decide) hq
  | some s =>
    have hs : s ∈ sn := (sn_ex p8).mpr ⟨0, by decide, rfl⟩
    have hsop := p8c s hs
    refine ⟨c9, fun n en => ⟨c9, fun V eV => ?_⟩⟩
    have en' : n = nI s.1 := by
      rw [en, g9.2.1.1]
      show nI (s.1 + 1) - nI 1 = nI s.1
      rw [pk_sub (by omega)]
      rfl
    subst en'
    have wV : lwT S V ([9].map ar) := eV ▸ lw_SI (by simp)
    have oV : rO S V (ar 15) [] := rO_lw g1 wV rfl
    have v0 : cI V (ar 9) 0 = nI 0 := by rw [eV]; exact cSI_s
    have fV := fr_lw (ρ := ρ) wV (tg_map hT rfl)
    obtain ⟨⟨so, sd, a1⟩, a2, a3, a4, a5, a6⟩ := C6_fr fV (by decide) hC
    have gV := lR_w wV g1
    have iV : I6 V ar dn made sl BL ix mg cm pr none o2 op fi w cc off H sk tk R := ⟨gV, sg_w g1 wV rfl g2, sz_w oV rfl g3, bf_w g1 wV rfl oV rfl g4, ix_w g1 wV rfl oV rfl g5, mg_w g1 wV rfl oV rfl g6, ⟨of_w 7 (by decide) ⟨rfl, rfl⟩ g1 wV rfl g7, of_w 8 (by decide) ⟨rfl, rfl⟩ g1 wV rfl g8, ⟨gV.1 9 (by decide), ⟨v0, by decide⟩, fun c => absurd c (by decide)⟩, of_w 10 (by decide) ⟨rfl, rfl⟩ g1 wV rfl g10⟩, wr_w g1 wV rfl g11, nm_w oV rfl g12, fi_w g1 wV rfl oV rfl g13⟩
    obtain ⟨i, hi⟩ := List.mem_iff_getElem?.mp hs
    have hm27 := g3.2.1.2
    have sub : ∀ t, t ∈ sn.eraseIdx i → t ∈ sn := fun t ht => List.mem_of_mem_eraseIdx ht
    have hM' : ixM made ix mg cm pr (sn.eraseIdx i) := ⟨a2.1, a2.2.1, a2.2.2.1, a2.2.2.2.1, fun t ht => a2.2.2.2.2 t (sub t ht)⟩
    have hp' := fm_er p8 (a := 0) rfl (by decide) hi
    rw [up_0] at hp'
    have hP' : pI (k + 1) WL6 l6 ad (sgR sl) made (BL.map dcR) ix mg cm pr (sn.eraseIdx i) (slO none o2) op cc off := ⟨⟨p1, p2, p3, p4, fun t ht => p5 t (sub t ht)⟩, p6, p7, ⟨hp', List.Nodup.sublist ((List.eraseIdx_sublist sn i).map _) p8b, fun t ht => p8c t (sub t ht), by omega⟩, fun w => absurd hs (by rw [(p9 w).2.2.2.2]; exact List.not_mem_nil), p10, p11, p12, p13, p14, by omega⟩
    have hfi : fiN (sgR sl) ix mg cm pr (sn.eraseIdx i) = rfA (fz cm pr) (sgR sl) made ix.1 mg cm pr (slO none o2) := fz_fi hp' hM' (fun s h => (p3 s h).1) (fun s h => (p4 s h).1) (fun n hn => by rw [sgR_len]; exact Nat.lt_of_le_of_lt (g2.2.2 n hn).2.1 (by decide))
    refine ⟨a1.1.1, 1, 206, bd.1, bd.2, g_shut a1 a2 hi (fun t ht => by have := p8c t ht; omega) p8b (by omega) (by omega) (by omega) (by omega) (fun T ρ' eT gT => ⟨bd, ?_⟩)⟩
    have hR : R6 (k + 1) T dp x ar (cd + 1) (dd + 206) := R6_I hL hC hT fV eT ⟨so, sd, gT⟩ hM' iV hP' hF (Nat.le_refl _) (fun _ _ => rfl) (by omega) (by omega)
    obtain ⟨gR, -, eI, eJ⟩ := I6_rows iV.1 hT eT.1 (by decide)
    have iT := I6_eq gR eI eJ iV
    obtain ⟨t1, t2, t3, t4, t5, t6, ⟨t7, t8, t9, t10⟩, t11, t12, t13⟩ := id iT
    refine q_L_files (xi_of iT) t7 t8 t9 t10 t3.2.1.1 t6.1 (fun s c e => ?_) ?_
    · obtain ⟨-, m1, -, m2, m3, -⟩ := t6.2 s c e
      exact ⟨m1, by omega⟩
    · rw [hfi]
      exact hQ 1 206 _ T bd.1 bd.2 hR
end LS6
