/-! both worlds together: the start, the loop -/
section STA
variable {S T : cS} {ρ : Nat → Nat} {v : Nat → Int32} {f : Nat → Nat → Int32} {g : Nat → Nat → Int64} {dp x out k cd dd L : Nat} {x4 : Int32} {xs : Nat → Int32} {R : Int32 → Nat → Nat → cS → (Nat → Int32) → (Nat → Nat → Int32) → (Nat → Nat → Int64) → Prop}
theorem m_0 (P : Nat → Nat) : wdC P 0 = 0 := by
  have := wdC_le P 0
  omega
theorem zr_0 {n N : Nat} (h : ∀ k, f n k = nI 0) : zRw f n N := fun k _ => ⟨false, (h k).trans (by decide)⟩
/-- a word that is no call -/
theorem Rel_id (h : Rel k S dp x out v f g cd dd) : Rel (k + 1) S dp x out v f g cd dd := by
  obtain ⟨ρ, WL, n, P, ks, A, yn, F, G, ad, c0, c1, n0, P0, n1, P1, hl, hr⟩ := h
  exact Rel_L (M := []) (Am := []) (Fm := []) (Gm := []) (mc := 0) (ms := 0) fr_rf (by decide) hr.1 rF_rf (by decide) (by decide) (by decide) (fun _ z => z) (by decide) (by decide) hr (Lp_fr (M := []) (Am := []) (Fm := []) (Gm := []) fr_rf (by decide) hl.1.2.1 (fun _ _ => rfl) rF_rf (by decide) (by decide) (by decide) hl)
theorem lt_6 (hL : L ≤ 3072) (hk : k ≤ 512) (h : L < 6 * k + 6) : nI L - nI 6 < nI (6 * k) := by
  rcases Nat.lt_or_ge L 6 with z | z
  · refine Int32.lt_iff_toInt_lt.mpr ?_
    rw [nI_toInt (show 6 * k < 2 ^ 31 by omega)]
    rcases (show L = 0 ∨ L = 1 ∨ L = 2 ∨ L = 3 ∨ L = 4 ∨ L = 5 by omega) with rfl | rfl | rfl | rfl | rfl | rfl
    · rw [show (nI 0 - nI 6).toInt = -6 by decide]; omega
    · rw [show (nI 1 - nI 6).toInt = -5 by decide]; omega
    · rw [show (nI 2 - nI 6).toInt = -4 by decide]; omega
    · rw [show (nI 3 - nI 6).toInt = -3 by decide]; omega
    · rw [show (nI 4 - nI 6).toInt = -2 by decide]; omega
    · rw [show (nI 5 - nI 6).toInt = -1 by decide]; omega
  · rw [pk_sub z]
    exact (nI_ltI (by omega) (by omega)).mpr (by omega)
end STA
