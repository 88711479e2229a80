/-! the case of a deletion -/
section LP6
variable {S V T : cS} {dp x k : Nat} {ar : Nat → Nat} {cd dd : Nat}
theorem did_del2 {mc ms : Nat} {y : Int32} {Q : Int32 → cS → Prop} (hx : cA S x 11) (h : k_X11_delete (fun r T => (r = 0 → (0 ≤ mc ∧ 0 ≤ ms) ∧ Q (nI 0) T) ∧ (¬ r = 0 → (0 ≤ mc ∧ 0 ≤ ms) ∧ Q (nI 1) T)) dp x y S) : kw_L_deleted Q dp mc ms x y S := by
  unfold kw_L_deleted
  exact ⟨hx, Or.inl ⟨⟨Nat.zero_le _, Nat.zero_le _⟩, h⟩⟩
theorem q_delc {Q : Int32 → Int32 → Nat → Nat → cS → Prop} {G : Prop} {t : Nat} (h : R6 k S dp x ar cd dd) (hk : k ≤ 250) (ht : t < 10000000) (hG : G) (hQ : ∀ m1 m2 r T, cd + m1 ≤ 500000 → dd + m2 ≤ 5000000 → R6 (k + 1) T dp x ar (cd + m1) (dd + m2) → Q r r m1 m2 T) : cX S (ar 15) 14 (nI 6) ∧ (¬ cI S (ar 15) (nI 6).toNatClampNeg = nI 1 → G ∧ k_L_deletes (fun r V => (r ≤ 0 → ∃ m1 m2, cd + m1 ≤ 500000 ∧ dd + m2 ≤ 5000000 ∧ kw_L_deleted (fun r' T => Q r' (nI 0) m1 m2 T) dp m1 m2 x (nI t - nI t / nI 10 * nI 10) V) ∧ (¬ r ≤ 0 → ∃ m1 m2, cd + m1 ≤ 500000 ∧ dd + m2 ≤ 5000000 ∧ kw_L_deleted (fun r' T => Q r' (nI 1) m1 m2 T) dp m1 m2 x (nI t - nI t / nI 10 * nI 10) V)) dp (ar 0) (ar 1) (ar 2) (ar 3) (ar 4) (ar 6) (ar 15) (nI t - nI t / nI 10 * nI 10) S) ∧ (cI S (ar 15) (nI 6).toNatClampNeg = nI 1 → ∃ m1 m2, cd + m1 ≤ 500000 ∧ dd + m2 ≤ 5000000 ∧ kw_L_deleted (fun r' T => Q r' (-7) m1 m2 T) dp m1 m2 x (nI t - nI t / nI 10 * nI 10) S) := by
  have bd := R6_bd hk (a := 1) (b := 6) (by decide) (by decide) h
  have hk6 := R6_k (cd' := cd + 1) (dd' := dd + 6) (by omega) (by omega) h
  have bd0 := R6_bd hk (a := 0) (b := 0) (by decide) (by decide) h
  obtain ⟨ρ, ad, dn, made, sl, BL, ix, mg, cm, pr, sn, o1, o2, op, fi, w, cc, off, H, sk, tk, CL, u, R, hL, hC, hI, hT, hP, hF, hc1, hc2⟩ := id h
  obtain ⟨g1, g2, g3, g4, g5, g6, ⟨g7, g8, g9, g10⟩, g11, g12, g13⟩ := id hI
  have e6 : cI S (ar 15) (nI 6).toNatClampNeg = bI off := by rw [nI_x 6 (by decide)]; exact g12.2.2.1
  rw [e6, i_mod (by omega) (by decide) (by decide)]
  have hm : t % 10 < 10 := Nat.mod_lt _ (by decide)
  refine ⟨lR_X g1 (i := 15) (by decide) (by decide), fun c => ?_, fun c => ?_⟩
  · cases off with
    | true => exact absurd rfl c
    | false =>
      refine ⟨hG, I6_dels hI hP.1.1.1 (by omega) (fun V wV iV hb => ?_)⟩
      have fV := fr_lw (ρ := ρ) wV (tg_map hT rfl)
      obtain ⟨⟨so, sd, a1⟩, a2, a3, a4, a5, a6⟩ := C6_fr fV (by decide) hC
      have go : ∀ b0 : Bool, b0 = decide (0 < BL.length - (bfK BL (t % 10)).length + klS sl ix.2 (t % 10) ix.1) → ∃ m1 m2, cd + m1 ≤ 500000 ∧ dd + m2 ≤ 5000000 ∧ kw_L_deleted (fun r' T => Q r' (nI (if b0 = true then 1 else 0)) m1 m2 T) dp m1 m2 x (nI (t % 10)) V := fun b0 hb0 => by
        refine ⟨0, 0, bd0.1, bd0.2, did_del2 a1.1.1 (g_delete a1 a2 hP.1.1.1 (by omega) (fun T ρ' B' lv' b eT hdk gT => ?_))⟩
        obtain ⟨rfl, hlv, eb⟩ := dk_law (by omega) hP.2.1.1 hP.2.1.2 (hP.1.1.2 (t % 10)) hdk
        have hbl := bf_map (key := t % 10) (BL := BL)
        have hR : R6 (k + 1) T dp x ar (cd + 0) (dd + 0) := R6_I hL hC hT fV eT ⟨so, sd, gT⟩ ⟨a2.1, a2.2.1, a2.2.2.1, a2.2.2.2.1, a2.2.2.2.2⟩ (iV lv' hlv) (pI_del hP hdk) hF (Nat.le_refl _) (fun _ _ => rfl) (by omega) (by omega)
        have e0 : b = b0 := by rw [eb, hb0]
        subst e0
        cases b with
        | false => exact ⟨fun _ => ⟨⟨Nat.zero_le _, Nat.zero_le _⟩, hQ 0 0 _ T bd0.1 bd0.2 hR⟩, fun w => absurd rfl w⟩
        | true => exact ⟨fun w => absurd w (by decide), fun _ => ⟨⟨Nat.zero_le _, Nat.zero_le _⟩, hQ 0 0 _ T bd0.1 bd0.2 hR⟩⟩
      refine ⟨fun c2 => ?_, fun c2 => ?_⟩
      · exact go false (by rw [nI_le0 (by omega)] at c2; rw [c2]; rfl)
      · exact go true (by rw [nI_le0 (by omega)] at c2; symm; rw [decide_eq_true_eq]; omega)
  · cases off with
    | false => exact absurd c (by decide)
    | true =>
      obtain ⟨⟨so, sd, a1⟩, a2, a3, a4, a5, a6⟩ := hC
      exact ⟨1, 6, bd.1, bd.2, didX_del a1.1.1 (by omega) (x_deleteS a1 (by omega) (by omega) (by omega) ⟨by omega, hQ 1 6 _ S bd.1 bd.2 hk6⟩)⟩
end LP6
