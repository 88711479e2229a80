/-! the case of opening -/
section LQ6
variable {S V T : cS} {dp x k mc ms cd dd : Nat} {ar : Nat → Nat} {ids : List Nat} {e : Nat → Nat}
theorem q_op59 {Q : Int32 → cS → Prop} {dp mc ms cd dd : Nat} (g : lRow S ar) (hl : ids.length ≤ 27) (h3 : cI S (ar 15) 3 = nI ids.length) (hv : ∀ i n, ids[i]? = some n → cI S (ar 7) (2 + i) = nI n ∧ n < 27) (he : ∀ n, n ∈ ids → cI S (ar 7) (32 + n) = nI (e n)) (hk : ∀ W, lwT S W ([4, 5, 6].map ar) → (∀ i n, ids[i]? = some n → cI W (ar 6) i = nI n ∧ cI W (ar 4) n = nI (e n) ∧ cI W (ar 5) n = nI (e n)) → cI W (ar 15) 3 = nI ids.length → ∃ mc4 ms5 : Nat, cd + mc4 ≤ mc ∧ dd + ms5 ≤ ms ∧ kw_L_did (fun r U => cX U (ar 15) 14 (nI 3) ∧ (¬ r = cI U (ar 15) (nI 3).toNatClampNeg → (cd + mc4 ≤ mc ∧ dd + ms5 ≤ ms) ∧ Q (bI false) U) ∧ (r = cI U (ar 15) (nI 3).toNatClampNeg → (cd + mc4 ≤ mc ∧ dd + ms5 ≤ ms) ∧ Q (bI true) U)) dp mc4 ms5 x (nI 6) W) : k_L_opens_59L Q dp mc ms x (ar 4) (ar 5) (ar 6) (ar 7) (ar 15) (nI 0) cd dd S := by
  unfold k_L_opens_59L
  refine lfp_cnt ids.length (fun i y => ∃ W, lwT S W ([4, 5, 6].map ar) ∧ (∀ j n, j < i → ids[j]? = some n → cI W (ar 6) j = nI n ∧ cI W (ar 4) n = nI (e n) ∧ cI W (ar 5) n = nI (e n)) ∧ y = (x, ar 4, ar 5, ar 6, ar 7, ar 15, nI i, cd, dd, W)) ?_ ⟨S, lw_rf, fun j n hj => absurd hj (Nat.not_lt_zero j), rfl⟩
  rintro P i _ hi ⟨W, wW, bW, rfl⟩ ih
  show k_L_opens_59 Q dp mc ms _ x (ar 4) (ar 5) (ar 6) (ar 7) (ar 15) (nI i) cd dd W
  have gW := lR_w wW g
  have h3W : cI W (ar 15) 3 = nI ids.length := by rw [lwI g wW 15 rfl]; exact h3
  unfold k_L_opens_59
  rw [nI_x 3 (by decide), h3W]
  refine ⟨lR_X gW (i := 15) (by decide) (by decide), pk_le ids.length i (fun c => ?_) (fun c => ?_)⟩
  · obtain rfl : i = ids.length := by omega
    have := hk W wW (fun j n hj => bW j n (get_lt hj) hj) h3W
    rw [nI_x 3 (by decide)] at this
    exact this
  · obtain ⟨n, hn⟩ : ∃ n, ids[i]? = some n := ⟨_, List.getElem?_eq_getElem c⟩
    obtain ⟨en, n27⟩ := hv i n hn
    have eeN := he n (List.mem_of_getElem? hn)
    rw [nI_add, nI_x i (by omega), nI_x (2 + i) (by omega), lwI g wW 7 rfl, en]
    refine ⟨lR_X gW (i := 7) (by decide) (show 2 + i < 64 by omega), lR_X gW (i := 6) (by decide) (show i < 30 by omega), fun S1 e1 => ?_⟩
    have w1 : lwT W S1 ([4, 5, 6].map ar) := by rw [e1]; exact lw_SI (by simp)
    have g1 := lR_w w1 gW
    have x1 : cI S1 (ar 6) i = nI n := by rw [e1]; exact cSI_s
    have c1 : cI S1 (ar 7) = cI S (ar 7) := by rw [lwI gW w1 7 rfl, lwI g wW 7 rfl]
    rw [x1, nI_add, nI_x n (by omega), nI_x (32 + n) (by omega), c1, eeN]
    refine ⟨lR_X g1 (i := 6) (by decide) (show i < 30 by omega), lR_X g1 (i := 6) (by decide) (show i < 30 by omega), lR_X g1 (i := 7) (by decide) (show 32 + n < 64 by omega), lR_X g1 (i := 4) (by decide) (show n < 30 by omega), fun S2 e2 => ?_⟩
    have w2 : lwT S1 S2 ([4, 5, 6].map ar) := by rw [e2]; exact lw_SI (by simp)
    have g2 := lR_w w2 g1
    have x2 : cI S2 (ar 6) = cI S1 (ar 6) := by rw [e2]; exact cI_SI_ne (lR_ne g (by decide) (by decide) (by decide))
    have v2 : cI S2 (ar 4) n = nI (e n) := by rw [e2]; exact cSI_s
    rw [x2, x1, nI_x n (by omega), v2]
    refine ⟨lR_X g2 (i := 6) (by decide) (show i < 30 by omega), lR_X g2 (i := 6) (by decide) (show i < 30 by omega), lR_X g2 (i := 4) (by decide) (show n < 30 by omega), lR_X g2 (i := 5) (by decide) (show n < 30 by omega), fun S3 e3 => ?_⟩
    have w3 : lwT S2 S3 ([4, 5, 6].map ar) := by rw [e3]; exact lw_SI (by simp)
    rintro _ rfl
    rw [nI_add]
    have x3 : cI S3 (ar 6) = cI S1 (ar 6) := by rw [e3]; exact (cI_SI_ne (lR_ne g (by decide) (by decide) (by decide))).trans x2
    have v3 : cI S3 (ar 4) = cI S2 (ar 4) := by rw [e3]; exact cI_SI_ne (lR_ne g (by decide) (by decide) (by decide))
    refine ih _ c ⟨S3, lw_tr (lw_tr (lw_tr wW w1 (fun _ h => h)) w2 (fun _ h => h)) w3 (fun _ h => h), fun j n' hj hn' => ?_, rfl⟩
    rw [x3, v3]
    have v1 : cI S1 (ar 4) = cI W (ar 4) := by rw [e1]; exact cI_SI_ne (lR_ne g (by decide) (by decide) (by decide))
    have u2 : cI S2 (ar 5) = cI W (ar 5) := by rw [e2, cI_SI_ne (lR_ne g (by decide) (by decide) (by decide)), e1, cI_SI_ne (lR_ne g (by decide) (by decide) (by decide))]
    have old : j ≠ i → cI S1 (ar 6) j = nI n' ∧ cI W (ar 4) n' = nI (e n') ∧ cI W (ar 5) n' = nI (e n') := fun hne => by
      obtain ⟨b1, b2, b3⟩ := bW j n' (by omega) hn'
      exact ⟨by rw [e1, cSI_o hne]; exact b1, b2, b3⟩
    refine ⟨?_, ?_, ?_⟩
    · by_cases cj : j = i
      · subst cj
        rw [hn] at hn'; cases hn'
        exact x1
      · exact (old cj).1
    · by_cases cn' : n' = n
      · rw [cn']; exact v2
      · rw [e2, cSI_o cn', v1]
        exact (old (fun cj => cn' (by subst cj; rw [hn] at hn'; cases hn'; rfl))).2.1
    · by_cases cn' : n' = n
      · rw [cn', e3]; exact cSI_s
      · rw [e3, cSI_o cn', u2]
        exact (old (fun cj => cn' (by subst cj; rw [hn] at hn'; cases hn'; rfl))).2.2
theorem sl_nil {o1 o2 : Option (Nat × Vw)} (h : ([] : List (Nat × Vw)).Perm ((List.range 5).filterMap (slO o1 o2))) : o1 = none ∧ o2 = none := by
  have e := List.perm_nil.mp h.symm
  cases o1 with
  | some s => exact absurd e (by simp [List.range, List.range.loop, slO])
  | none =>
    cases o2 with
    | some s => exact absurd e (by simp [List.range, List.range.loop, slO])
    | none => exact ⟨rfl, rfl⟩
end LQ6
