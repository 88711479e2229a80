/-! a merge ends: the law's index -/
section LZ6
variable {S V T W : cS} {made p b : Nat} {ar : Nat → Nat} {ids mid : List Nat}
theorem mid_get {l mid : List Nat} {p i a : Nat} (hp : p + 3 ≤ l.length) (h : (l.take p ++ (mid ++ l.drop (p + 3)))[i]? = some a) : (i < p ∧ l[i]? = some a) ∨ (p ≤ i ∧ i < p + mid.length ∧ mid[i - p]? = some a) ∨ (p + mid.length ≤ i ∧ l[i - mid.length + 3]? = some a) := by
  have hl : (l.take p).length = p := by rw [List.length_take]; omega
  rcases Nat.lt_or_ge i p with c | c
  · rw [List.getElem?_append_left (by omega), List.getElem?_take_of_lt c] at h
    exact Or.inl ⟨c, h⟩
  · rw [List.getElem?_append_right (by omega), hl] at h
    rcases Nat.lt_or_ge (i - p) mid.length with d | d
    · rw [List.getElem?_append_left d] at h
      exact Or.inr (Or.inl ⟨c, by omega, h⟩)
    · rw [List.getElem?_append_right d, List.getElem?_drop] at h
      refine Or.inr (Or.inr ⟨by omega, ?_⟩)
      rw [← h]
      congr 1
      omega
theorem q_mg488 {Q : Int32 → cS → Prop} {dp mc ms x cd dd : Nat} (g : lRow S ar) (hl : ids.length ≤ 27) (hp : p + 3 ≤ ids.length) (hmd : made < 30) (hmid : (b = 3 ∧ mid = []) ∨ (b = 2 ∧ mid = [made])) (m3 : cI S (ar 15) 3 = nI ids.length) (m2 : cI S (ar 15) 2 = nI made) (hx : ∀ i a, ids[i]? = some a → cI S (ar 6) i = nI a) (hk : ∀ W, lwT S W ([6, 15].map ar) → rO S W (ar 15) [2, 3] → cI W (ar 15) 2 = nI (made + mid.length) → cI W (ar 15) 3 = nI (ids.take p ++ (mid ++ ids.drop (p + 3))).length → (∀ i a, (ids.take p ++ (mid ++ ids.drop (p + 3)))[i]? = some a → cI W (ar 6) i = nI a) → k_L_isMerged_546 Q dp mc ms x (ar 15) cd dd W) : k_L_isMerged_488L Q dp mc ms x (ar 6) (ar 15) (nI p) (nI made) (nI b) (nI (p + 3)) cd dd S := by
  have hb : 2 ≤ b ∧ b ≤ 3 ∧ b + mid.length = 3 := by rcases hmid with ⟨rfl, rfl⟩ | ⟨rfl, rfl⟩ <;> simp
  have hlen : (ids.take p ++ (mid ++ ids.drop (p + 3))).length = ids.length - b := by
    rw [List.length_append, List.length_append, List.length_take, List.length_drop]
    omega
  unfold k_L_isMerged_488L
  refine lfp_cnt (ids.length - (p + 3)) (fun i y => ∃ W, lwT S W ([6].map ar) ∧ (∀ q, q < p → cI W (ar 6) q = cI S (ar 6) q) ∧ (∀ q, p + 3 ≤ q → q < p + 3 + i → cI W (ar 6) (q - b) = cI S (ar 6) q) ∧ (∀ q, p + 3 + i ≤ q → cI W (ar 6) q = cI S (ar 6) q) ∧ y = (x, ar 6, ar 15, nI p, nI made, nI b, nI (p + 3 + i), cd, dd, W)) ?_ ⟨S, lw_rf, fun _ _ => rfl, fun q h1 h2 => absurd h2 (by omega), fun _ _ => rfl, rfl⟩
  rintro P i _ hi ⟨W, wW, x1, x2, x3, rfl⟩ ih
  show k_L_isMerged_488 Q dp mc ms _ x (ar 6) (ar 15) (nI p) (nI made) (nI b) (nI (p + 3 + i)) cd dd W
  have gW := lR_w wW g
  have mW : cI W (ar 15) = cI S (ar 15) := lwI g wW 15 rfl
  unfold k_L_isMerged_488
  rw [nI_x 3 (by decide), mW, m3]
  refine ⟨lR_X gW (i := 15) (by decide) (by decide), pk_le ids.length (p + 3 + i) (fun c => ?_) (fun c => ?_)⟩
  · rw [pk_sub (by omega)]
    refine ⟨lR_X gW (i := 15) (by decide) (by decide), lR_X gW (i := 15) (by decide) (by decide), fun S1 e1 => ?_⟩
    have w1 : lwT W S1 ([15].map ar) := e1 ▸ lw_SI (by simp)
    have g1 := lR_w w1 gW
    have xS1 : cI S1 (ar 6) = cI W (ar 6) := lwI gW w1 6 rfl
    have old : ∀ q a, p + mid.length ≤ q → ids[q - mid.length + 3]? = some a → cI W (ar 6) q = nI a := fun q a hq ha => by
      have hlt := get_lt ha
      have h2 := x2 (q - mid.length + 3) (by omega) (by omega)
      rw [show q - mid.length + 3 - b = q by omega] at h2
      rw [h2]
      exact hx _ _ ha
    rcases hmid with ⟨rfl, rfl⟩ | ⟨rfl, rfl⟩
    · refine ⟨fun _ => hk S1 ?_ ?_ ?_ ?_ ?_, fun c => absurd c (by decide)⟩
      · exact lw_tr (lw_wk wW (fun a ha => by simp at ha ⊢; simp [ha])) w1 (fun a ha => by simp at ha ⊢; simp [ha])
      · intro q hq
        simp at hq
        rw [e1, cSI_o hq.2, mW]
      · rw [e1, cSI_o (by decide), mW]; exact m2
      · rw [e1, cSI_s, hlen]
      · intro q a hq
        rw [xS1]
        rcases mid_get hp hq with ⟨h1, h2⟩ | ⟨h1, h2, h3⟩ | ⟨h1, h2⟩
        · rw [x1 q h1]; exact hx q a h2
        · exact absurd h2 (by simp; omega)
        · exact old q a h1 h2
    · refine ⟨fun c => absurd rfl c, fun _ => ?_⟩
      rw [nI_x p (by omega)]
      refine ⟨lR_X g1 (i := 6) (by decide) (show p < 30 by omega), fun S2 e2 => ?_⟩
      have w2 : lwT S1 S2 ([6].map ar) := e2 ▸ lw_SI (by simp)
      have g2 := lR_w w2 g1
      have m22 : cI S2 (ar 15) 2 = nI made := by rw [lwI g1 w2 15 rfl, e1, cSI_o (by decide), mW]; exact m2
      rw [nI_x 2 (by decide), m22, nI_add]
      refine ⟨lR_X g2 (i := 15) (by decide) (by decide), lR_X g2 (i := 15) (by decide) (by decide), fun S3 e3 => hk S3 ?_ ?_ ?_ ?_ ?_⟩
      · exact lw_tr (lw_tr (lw_tr (lw_wk wW (fun a ha => by simp at ha ⊢; simp [ha])) w1 (fun a ha => by simp at ha ⊢; simp [ha])) w2 (fun a ha => by simp at ha ⊢; simp [ha])) (e3 ▸ lw_SI (by simp)) (fun _ z => z)
      · intro q hq
        simp at hq
        rw [e3, cSI_o hq.1, lwI g1 w2 15 rfl, e1, cSI_o hq.2, mW]
      · rw [e3, cSI_s]; rfl
      · rw [e3, cSI_o (by decide), lwI g1 w2 15 rfl, e1, cSI_s, hlen]
      · intro q a hq
        have x3' : cI S3 (ar 6) = cI S2 (ar 6) := by rw [e3]; exact cI_SI_ne (lR_ne g (by decide) (by decide) (by decide))
        rw [x3', e2]
        rcases mid_get hp hq with ⟨h1, h2⟩ | ⟨h1, h2, h3⟩ | ⟨h1, h2⟩
        · rw [cSI_o (by omega), xS1, x1 q h1]; exact hx q a h2
        · obtain rfl : q = p := by have : q < p + 1 := h2; omega
          rw [Nat.sub_self] at h3
          cases h3
          rw [cSI_s]
        · have h1' : p + 1 ≤ q := h1
          rw [cSI_o (by omega), xS1]; exact old q a h1 h2
  · obtain ⟨a, ha⟩ : ∃ a, ids[p + 3 + i]? = some a := ⟨_, List.getElem?_eq_getElem c⟩
    rw [pk_sub (by omega), nI_x (p + 3 + i) (by omega), nI_x (p + 3 + i - b) (by omega)]
    refine ⟨lR_X gW (i := 6) (by decide) (show p + 3 + i < 30 by omega), lR_X gW (i := 6) (by decide) (show p + 3 + i - b < 30 by omega), fun S1 e1 => ?_⟩
    have w1 : lwT W S1 ([6].map ar) := e1 ▸ lw_SI (by simp)
    rintro _ rfl
    rw [nI_add]
    refine ih _ (by omega) ⟨S1, lw_tr wW w1 (fun _ z => z), fun q hq => ?_, fun q h1 h2 => ?_, fun q hq => ?_, rfl⟩
    · rw [e1, cSI_o (by omega)]; exact x1 q hq
    · by_cases cq : q = p + 3 + i
      · rw [cq, e1, cSI_s]; exact x3 _ (by omega)
      · rw [e1, cSI_o (by omega)]; exact x2 q h1 (by omega)
    · rw [e1, cSI_o (by omega)]; exact x3 q (by omega)
end LZ6
