/-! the case of dropping -/
section LZE
variable {S V T W : cS} {ρ : Nat → Nat} {dp x k cd dd made dn : Nat} {ar : Nat → Nat} {ids : List Nat}
theorem q_comm301 {Q : Int32 → cS → Prop} {mc ms cd dd : Nat} (g : lRow S ar) (hl : ids.length ≤ 30) (h1 : cI S (ar 8) 1 = nI ids.length) (hid : ∀ i n, ids[i]? = some n → cI S (ar 8) (2 + i) = nI n ∧ n < 30) (hk : ∀ V, lwT S V ([5, 8].map ar) → cI V (ar 8) 0 = nI 0 → (∀ n, n ∈ ids → cI V (ar 5) n = cI S (ar 14) n) → (∀ n, n ∉ ids → n < 30 → cI V (ar 5) n = cI S (ar 5) n) → cA V x 11 ∧ ((cd ≤ mc ∧ dd ≤ ms) ∧ k_X11_drop (fun S_16 => ∃ mc17 ms18 : Nat, cd + mc17 ≤ mc ∧ dd + ms18 ≤ ms ∧ kw_L_did (fun r_19 S_19 => (¬ r_19 = -7 → (cd + mc17 ≤ mc ∧ dd + ms18 ≤ ms) ∧ Q (bI false) S_19) ∧ (r_19 = -7 → (cd + mc17 ≤ mc ∧ dd + ms18 ≤ ms) ∧ Q (bI true) S_19)) dp mc17 ms18 x (nI 5) S_16) dp x V)) : k_L_isCommitted_301L Q dp mc ms x (ar 5) (ar 8) (ar 14) (nI 0) cd dd S := by
  unfold k_L_isCommitted_301L
  refine lfp_cnt ids.length (fun i y => ∃ W, lwT S W ([5].map ar) ∧ (∀ j n, j < i → ids[j]? = some n → cI W (ar 5) n = cI S (ar 14) n) ∧ (∀ n, n ∉ ids → cI W (ar 5) n = cI S (ar 5) n) ∧ y = (x, ar 5, ar 8, ar 14, nI i, cd, dd, W)) ?_ ⟨S, lw_rf, fun j n hj => absurd hj (Nat.not_lt_zero j), fun _ _ => rfl, rfl⟩
  rintro P i _ hi ⟨W, wW, b1, b2, rfl⟩ ih
  show k_L_isCommitted_301 Q dp mc ms _ x (ar 5) (ar 8) (ar 14) (nI i) cd dd W
  have gW := lR_w wW g
  unfold k_L_isCommitted_301
  rw [nI_x 1 (by decide), lwI g wW 8 rfl, h1]
  refine ⟨lR_X gW (i := 8) (by decide) (by decide), pk_le ids.length i (fun d => ?_) (fun d => ?_)⟩
  · obtain rfl : i = ids.length := by omega
    rw [nI_x 0 (by decide)]
    refine ⟨lR_X gW (i := 8) (by decide) (by decide), fun V eV => ?_⟩
    have n58 : ar 5 ≠ ar 8 := lR_ne g (by decide) (by decide) (by decide)
    refine hk V (lw_tr (lw_wk wW (fun a ha => by simp at ha ⊢; simp [ha])) (eV ▸ lw_SI (by simp)) (fun _ z => z)) (by rw [eV, cSI_s]) (fun n hn => ?_) (fun n hn _ => ?_)
    · obtain ⟨j, hj⟩ := List.mem_iff_getElem?.mp hn
      rw [eV, cI_SI_ne n58]
      exact b1 j n (get_lt hj) hj
    · rw [eV, cI_SI_ne n58]
      exact b2 n hn
  · obtain ⟨n, hn⟩ : ∃ n, ids[i]? = some n := ⟨_, List.getElem?_eq_getElem d⟩
    obtain ⟨e1, n30⟩ := hid i n hn
    rw [nI_add, nI_x (2 + i) (by omega), e1, nI_x n (by omega), lwI g wW 14 rfl]
    refine ⟨lR_X gW (i := 8) (by decide) (show 2 + i < 64 by omega), lR_X gW (i := 8) (by decide) (show 2 + i < 64 by omega), lR_X gW (i := 14) (by decide) (show n < 30 by omega), lR_X gW (i := 5) (by decide) (show n < 30 by omega), fun S4 e4 => ?_⟩
    have w4 : lwT W S4 ([5].map ar) := e4 ▸ lw_SI (by simp)
    rintro _ rfl
    rw [nI_add]
    refine ih _ d ⟨S4, lw_tr wW w4 (fun _ z => z), fun j n' hj hn' => ?_, fun n' hn' => ?_, rfl⟩
    · by_cases cn' : n' = n
      · rw [cn', e4, cSI_s]
      · rw [e4, cSI_o cn']
        exact b1 j n' (by
          rcases Nat.lt_or_ge j i with z | z
          · exact z
          · obtain rfl : j = i := by omega
            rw [hn] at hn'
            exact absurd (Option.some.inj hn').symm cn') hn'
    · rw [e4, cSI_o (show n' ≠ n from fun e => hn' (e ▸ List.mem_of_getElem? hn))]
      exact b2 n' hn'
theorem q_comm2 {Q : Nat → Nat → Int32 → cS → Prop} (h : R6 k S dp x ar cd dd) (hk : k ≤ 250) (hQ : ∀ m1 m2 T, cd + m1 ≤ 500000 → dd + m2 ≤ 5000000 → R6 (k + 1) T dp x ar (cd + m1) (dd + m2) → Q m1 m2 (bI true) T) : ∃ m1 m2, cd + m1 ≤ 500000 ∧ dd + m2 ≤ 5000000 ∧ k_L_isCommitted (Q m1 m2) dp m1 m2 x (ar 0) (ar 1) (ar 2) (ar 3) (ar 4) (ar 5) (ar 6) (ar 7) (ar 8) (ar 9) (ar 10) (ar 15) (ar 14) (nI 2) S := by
  have bd := R6_bd hk (a := 3) (b := 70) (by decide) (by decide) h
  have hk6 := R6_k (cd' := cd + 3) (dd' := dd + 70) (by omega) (by omega) h
  obtain ⟨ρ, ad, dn, made, sl, BL, ix, mg, cm, pr, sn, o1, o2, op, fi, w, cc, off, H, sk, tk, CL, u, R, hL, hC, hI, hT, hP, hF, hc1, hc2⟩ := id h
  obtain ⟨g1, g2, g3, g4, g5, g6, ⟨g7, g8, g9, g10⟩, g11, g12, g13⟩ := id hI
  obtain ⟨⟨p1, p2, p3, p4, p5⟩, p6, p7, ⟨p8, p8b, p8c, p8d⟩, p9, p10, p11, p12, p13, p14, p15⟩ := id hP
  have e6 : cI S (ar 15) (nI 6).toNatClampNeg = bI off := by rw [nI_x 6 (by decide)]; exact g12.2.2.1
  have e0 : cI S (ar 8) (nI 0).toNatClampNeg = nI (ofO pr) := by rw [nI_x 0 (by decide)]; exact g8.2.1.1
  refine ⟨3, 70, bd.1, bd.2, ?_⟩
  have no : (off = true ∨ pr = none) → k_L_isCommitted_276 (Q 3 70) dp 3 70 x 0 0 S := fun hno => by
    unfold k_L_isCommitted_276
    obtain ⟨⟨so, sd, a1⟩, a2, a3, a4, a5, a6⟩ := hC
    exact ⟨3, 70, by omega, by omega, didX_finish a1.1.1 (by omega) (x_finish a1 hno (by omega) (by omega) ⟨by omega, fun c => absurd rfl c, fun _ => ⟨by omega, hQ 3 70 S bd.1 bd.2 hk6⟩⟩)⟩
  unfold k_L_isCommitted
  rw [e6, e0]
  refine ⟨fun _ => ⟨lR_X g1 (i := 15) (by decide) (by decide), fun c => no (Or.inl (by cases off with | true => rfl | false => exact absurd c (by decide))), fun c => ⟨lR_X g1 (i := 8) (by decide) (by decide), ?_⟩⟩, fun c => absurd c (by decide)⟩
  cases off with
  | true => exact absurd rfl c
  | false =>
    cases pr with
    | none => exact ⟨fun c => absurd rfl c, fun _ => no (Or.inr rfl)⟩
    | some s0 =>
      refine ⟨fun _ => ⟨fun c => absurd rfl c, fun _ => ?_⟩, fun c => absurd c (by show ¬ nI 1 = 0; decide)⟩
      have gp := g8.2.2 (show 0 < 1 by decide)
      have hm27 := g3.2.1.2
      obtain ⟨w1', w2'⟩ := g11
      obtain ⟨w3', w4'⟩ := w2' s0 rfl
      refine q_comm301 (ids := s0.1) g1 gp.2.2.1 gp.2.1 (fun i n hi => ⟨(gp.2.2.2.1 i n hi).1, by have := (gp.2.2.2.1 i n hi).2; omega⟩) (fun V wV v80 b1 b2 => ?_)
      have gV := lR_w wV g1
      have oV := rO_lw g1 wV rfl
      have fV := fr_lw (ρ := ρ) wV (tg_map hT rfl)
      obtain ⟨⟨so, sd, a1⟩, a2, a3, a4, a5, a6⟩ := C6_fr fV (by decide) hC
      have iV : I6 V ar dn made sl BL ix mg cm none o1 o2 op fi w cc false H sk tk R := ⟨gV, sg_w g1 wV rfl g2, sz_w oV rfl g3, bf_w g1 wV rfl oV rfl g4, ix_w g1 wV rfl oV rfl g5, mg_w g1 wV rfl oV rfl g6, ⟨of_w 7 (by decide) ⟨rfl, rfl⟩ g1 wV rfl g7, ⟨gV.1 8 (by decide), ⟨v80, by decide⟩, fun c => absurd c (by decide)⟩, of_w 9 (by decide) ⟨rfl, rfl⟩ g1 wV rfl g9, of_w 10 (by decide) ⟨rfl, rfl⟩ g1 wV rfl g10⟩, ⟨fun n hn => by
          by_cases c : n ∈ s0.1
          · rw [b1 n c]
            exact w3' n c
          · have hlt := a2.1 n hn
            rw [b2 n c (by omega), w1' n hn]
            congr 1
            refine bN_ext (fun j hj => ?_)
            show (if n ∈ s0.1 then s0.2 n j else wbs cm n j) = wbs cm n j
            rw [if_neg c], fun p e => absurd e (by simp)⟩, nm_w oV rfl g12, fi_w g1 wV rfl oV rfl g13⟩
      refine ⟨a1.1.1, ⟨by omega, by omega⟩, g_drop a1 a2 (fun T eT gT => ?_)⟩
      have hR : R6 (k + 1) T dp x ar (cd + 3) (dd + 70) := R6_I hL hC hT fV eT ⟨so, sd, gT⟩ ⟨a2.1, a2.2.1, a2.2.2.1, fun w e => absurd e (by simp), a2.2.2.2.2⟩ iV ⟨⟨p1, p2, p3, fun s e => absurd e (by simp), p5⟩, p6, p7, ⟨p8, p8b, p8c, by omega⟩, fun w => absurd w (by decide), p10, p11, p12, p13, p14, by omega⟩ hF (Nat.le_refl _) (fun _ _ => rfl) (by omega) (by omega)
      exact ⟨3, 70, by omega, by omega, didX_finish gT.1.1 (by omega) (x_finish gT (Or.inr rfl) (by omega) (by omega) ⟨by omega, fun c => absurd rfl c, fun _ => ⟨by omega, hQ 3 70 T bd.1 bd.2 hR⟩⟩)⟩
end LZE
