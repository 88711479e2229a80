/-! the class: words with their postings are found and made -/
def pP (S : cS) (p : Nat) (x : Int64 × List (Nat × Nat)) : Prop := pC S p x.1 (putNs ([], []) (nmN 0 x.2)).1 (putNs ([], []) (nmN 0 x.2)).2 x.2.length (lpP 0 x.2) ∧ okP 0 x.2
/-- words under way -/
def wC (S : cS) (ρ : Nat → Nat) (dp wl : Nat) (ws : List Nat) (m : Nat) (wp : List (Int64 × List (Nat × Nat))) : Prop := lsT S dp wl 5 ws m ∧ (∀ z, lsF S dp wl z → ρ z = 81) ∧ ws.length = wp.length ∧ (∀ (j k p : Nat), ws[j]? = some p → ws[k]? = some p → j = k) ∧ ∃ o : Nat → Nat, ∀ (j p : Nat) (x : Int64 × List (Nat × Nat)), ws[j]? = some p → wp[j]? = some x → pP S p x ∧ ∀ z, pCF S p z → ρ z = 81 ∧ o z = p
theorem plW_none {wp : List (Int64 × List (Nat × Nat))} {c : Int64} {k : Nat} (h1 : srtW wp) (hp : plW wp c k) (hn : ∀ x : Int64 × List (Nat × Nat), wp[k]? = some x → x.1 ≠ c) (j : Nat) (x : Int64 × List (Nat × Nat)) (hj : wp[j]? = some x) : x.1 ≠ c := by
  obtain ⟨p1, p2, p3⟩ := hp
  intro e
  rcases Nat.lt_trichotomy j k with q | q | q
  · have := p2 j x q hj
    rw [e] at this; omega
  · subst q; exact hn x hj e
  · have hkl : k < wp.length := by have := get_lt hj; omega
    obtain ⟨w, hw⟩ := get_ex hkl
    have a1 := p3 k w (Nat.le_refl _) hw
    have a2 := h1 k j w x q hw hj
    rw [e] at a2; omega
section WC
variable {S T : cS} {ρ : Nat → Nat} {dp wl m : Nat} {ws : List Nat} {wp : List (Int64 × List (Nat × Nat))} {c : Int64}
theorem q_placeOf {Q : Int32 → cS → Prop} (ht : lsT S dp wl 5 ws m) (hl : ws.length = wp.length) (hw : ∀ (j p : Nat) (x : Int64 × List (Nat × Nat)), ws[j]? = some p → wp[j]? = some x → cw S 160 p = x.1) (hs : srtW wp) (h : ∀ k, plW wp c k → Q (nI k) S) : k_X8_placeOf Q dp wl c S := by
  have hm := ht.2.2.1
  have hm2 := ht.2.2.2.1
  unfold k_X8_placeOf
  refine ⟨ht.1, q_lsize ht ?_⟩
  unfold k_X8_placeOf_8L
  refine lfp_ind (I := fun y => ∃ lo hi, lo ≤ hi ∧ hi ≤ wp.length ∧ (∀ (j : Nat) (x : Int64 × List (Nat × Nat)), j < lo → wp[j]? = some x → x.1.toInt < c.toInt) ∧ (∀ (j : Nat) (x : Int64 × List (Nat × Nat)), hi ≤ j → wp[j]? = some x → c.toInt ≤ x.1.toInt) ∧ y = (wl, c, nI lo, nI hi, S)) (μ := fun y => y.2.2.2.1.toNatClampNeg - y.2.2.1.toNatClampNeg) ?_ ⟨0, wp.length, Nat.zero_le _, Nat.le_refl _, fun j x hj => absurd hj (Nat.not_lt_zero j), fun j x hj hx => absurd (get_lt hx) (by omega), by rw [hl]⟩
  rintro P _ ⟨lo, hi, h1, h2, h3, h4, rfl⟩ ih
  show k_X8_placeOf_8 Q dp _ wl c (nI lo) (nI hi) S
  unfold k_X8_placeOf_8
  refine pk_le hi lo (fun z => ?_) (fun hlt => ?_)
  · obtain rfl : lo = hi := by omega
    exact h lo ⟨h2, h3, h4⟩
  · rw [nI_add, nI_shr (by omega) (by decide)]
    rintro _ rfl
    obtain ⟨mid, hmid⟩ : ∃ mid, mid = (lo + hi) / 2 ^ 1 := ⟨_, rfl⟩
    rw [← hmid]
    have m1 : lo ≤ mid ∧ mid < hi := by omega
    obtain ⟨p, hp⟩ := get_ex (l := ws) (k := mid) (by omega)
    obtain ⟨x, hx⟩ := get_ex (l := wp) (k := mid) (by omega)
    have pA : cA S p 5 := ht.2.2.2.2.2.1 p (List.mem_of_getElem? hp)
    refine ⟨ht.1, q_lget ht hp ⟨pA, pA, fun z => ?_, fun z => ?_⟩⟩
    · rw [hw mid p x hp hx, Int64.le_iff_toInt_le] at z
      refine ih _ ⟨lo, mid, m1.1, by omega, h3, fun j y hj hy => ?_, rfl⟩ ?_
      · rcases Nat.lt_or_eq_of_le hj with q | q
        · have := hs mid j x y q hx hy; omega
        · subst q
          rw [hx] at hy
          rw [← Option.some.inj hy]; exact z
      · show (nI mid).toNatClampNeg - (nI lo).toNatClampNeg < (nI hi).toNatClampNeg - (nI lo).toNatClampNeg
        rw [nI_clamp (by omega), nI_clamp (by omega), nI_clamp (by omega)]; omega
    · rw [hw mid p x hp hx, Int64.le_iff_toInt_le] at z
      rw [nI_add]
      rintro _ rfl
      refine ih _ ⟨mid + 1, hi, by omega, h2, fun j y hj hy => ?_, h4, rfl⟩ ?_
      · rcases Nat.lt_or_eq_of_le (show j ≤ mid by omega) with q | q
        · have := hs j mid y x q hy hx; omega
        · subst q
          rw [hx] at hy
          rw [← Option.some.inj hy]; omega
      · show (nI hi).toNatClampNeg - (nI (mid + 1)).toNatClampNeg < (nI hi).toNatClampNeg - (nI lo).toNatClampNeg
        rw [nI_clamp (by omega), nI_clamp (by omega), nI_clamp (by omega)]; omega
theorem q_postInit {Q : cS → Prop} {q mc ms : Nat} (hq : cA S q 5) (hc : 2 ≤ mc) (hs : 8 ≤ ms) (h : ∀ T, cSub S T (fun z => z = q) → (∀ z, pCF T q z → z = q ∨ z ∉ cL S) → pC T q c [] [] 0 0 → Q T) : k_X5_init Q dp mc ms q c S := by
  unfold k_X5_init
  refine ⟨4, rfl, by decide, by omega, by omega, fun q2 hq2 S3 e3 => ?_⟩
  have s3 : cSub S S3 (fun z => z = q) := e3 ▸ sub_A hq2
  refine ⟨sub_A1 s3 hq, fun S4 e4 => ?_⟩
  have s4 : cSub S S4 (fun z => z = q) := sub_tr s3 (e4 ▸ sub_Sr (F := fun z => z = q) rfl) (fun _ _ z => z)
  refine ⟨sub_A1 s4 hq, fun S5 e5 => ?_⟩
  have s5 : cSub S S5 (fun z => z = q) := sub_tr s4 (e5 ▸ sub_Si (F := fun z => z = q) rfl) (fun _ _ z => z)
  refine ⟨sub_A1 s5 hq, fun S6 e6 => ?_⟩
  have s6 : cSub S S6 (fun z => z = q) := sub_tr s5 (e6 ▸ sub_Si (F := fun z => z = q) rfl) (fun _ _ z => z)
  refine ⟨sub_A1 s6 hq, fun S7 e7 => ?_⟩
  have s7 : cSub S S7 (fun z => z = q) := sub_tr s6 (e7 ▸ sub_Si (F := fun z => z = q) rfl) (fun _ _ z => z)
  refine ⟨4, rfl, by decide, by omega, by omega, fun q9 hq9 S10 e10 => ?_⟩
  have s10 : cSub S S10 (fun z => z = q) := sub_tr s7 (e10 ▸ sub_A (F := fun z => z = q) hq9) (fun _ _ z => z)
  refine ⟨sub_A1 s10 hq, fun S11 e11 => ?_⟩
  have s11 : cSub S S11 (fun z => z = q) := sub_tr s10 (e11 ▸ sub_Sr (F := fun z => z = q) rfl) (fun _ _ z => z)
  refine ⟨sub_A1 s11 hq, fun S12 e12 => ?_⟩
  have s12 : cSub S S12 (fun z => z = q) := sub_tr s11 (e12 ▸ sub_Si (F := fun z => z = q) rfl) (fun _ _ z => z)
  refine ⟨sub_A1 s12 hq, fun S13 e13 => ?_⟩
  have s13 : cSub S S13 (fun z => z = q) := sub_tr s12 (e13 ▸ sub_Si (F := fun z => z = q) rfl) (fun _ _ z => z)
  refine ⟨sub_A1 s13 hq, fun S14 e14 => ?_⟩
  have s14 : cSub S S14 (fun z => z = q) := sub_tr s13 (e14 ▸ sub_Si (F := fun z => z = q) rfl) (fun _ _ z => z)
  refine ⟨sub_A1 s14 hq, fun S15 e15 => ?_⟩
  have s15 : cSub S S15 (fun z => z = q) := sub_tr s14 (e15 ▸ sub_Si (F := fun z => z = q) rfl) (fun _ _ z => z)
  refine ⟨sub_A1 s15 hq, fun S16 e16 => ?_⟩
  have s16 : cSub S S16 (fun z => z = q) := sub_tr s15 (e16 ▸ sub_Sw (F := fun z => z = q) rfl) (fun _ _ z => z)
  have i16 : ∀ k y, k < 165 → ci S7 k q = y → ci S16 k q = y := fun k y hk h => hi_Sw e16 (hi_Si_q e15 (by omega) (hi_Si_q e14 (by omega) (hi_Si_q e13 (by omega) (hi_Si_q e12 (by omega) (hi_Sr e11 (hi_A e10 h))))))
  have m7 : ∀ {z : Nat}, z ∈ cL S3 → z ∈ cL S7 := fun h => hm_Si e7 (hm_Si e6 (hm_Si e5 (hm_Sr e4 h)))
  have m16 : ∀ {z k : Nat}, cA S10 z k → cA S16 z k := fun h => ⟨hm_Sw e16 (hm_Si e15 (hm_Si e14 (hm_Si e13 (hm_Si e12 (hm_Sr e11 h.1))))), hk_Sw e16 (hk_Si e15 (hk_Si e14 (hk_Si e13 (hk_Si e12 (hk_Sr e11 h.2)))))⟩
  have n16 : ∀ {z n : Nat}, cn S10 z = n → cn S16 z = n := fun h => hn_Sw e16 (hn_Si e15 (hn_Si e14 (hn_Si e13 (hn_Si e12 (hn_Sr e11 h)))))
  have I16 : ∀ {z : Nat} {f : Nat → Int32}, cI S10 z = f → cI S16 z = f := fun h => hI_Sw e16 (hI_Si e15 (hI_Si e14 (hI_Si e13 (hI_Si e12 (hI_Sr e11 h)))))
  have q29 : q2 ≠ q9 := cm_nq hq9 (m7 (hm_Ao e3))
  have a2 : cA S10 q2 13 := ⟨hm_A e10 (m7 (hm_Ao e3)), hk_A e10 q29 (hk_Si e7 (hk_Si e6 (hk_Si e5 (hk_Sr e4 (hk_Ao e3)))))⟩
  have n2 : cn S10 q2 = 4 := hn_A e10 q29 (hn_Si e7 (hn_Si e6 (hn_Si e5 (hn_Sr e4 (hn_Ao e3)))))
  have I2 : cI S10 q2 = fun _ => 0 := hI_A e10 q29 (hI_Si e7 (hI_Si e6 (hI_Si e5 (hI_Sr e4 (hI_Ao e3)))))
  have r161 : cr S16 161 q = some q2 := hr_Sw e16 (hr_Si e15 (hr_Si e14 (hr_Si e13 (hr_Si e12 (hr_Sr_q e11 (by decide) (hr_A e10 (hr_Si e7 (hr_Si e6 (hr_Si e5 (hr_Sr_s e4))))))))))
  have r165 : cr S16 165 q = some q9 := hr_Sw e16 (hr_Si e15 (hr_Si e14 (hr_Si e13 (hr_Si e12 (hr_Sr_s e11)))))
  refine ⟨⟨by omega, by omega⟩, h S16 s16 (fun z hz => ?_) ⟨⟨sub_A1 s16 hq, i16 _ _ (by decide) (hi_Si_q e7 (by decide) (hi_Si_q e6 (by decide) (hi_Si_s e5))), by decide, q2, r161, m16 a2, n16 n2, fun k hk => ?_⟩, ?_, i16 _ _ (by decide) (hi_Si_q e7 (by decide) (hi_Si_s e6)), (i16 _ _ (by decide) (hi_Si_s e7)).trans nM_0.symm, hi_Sw e16 (hi_Si_q e15 (by decide) (hi_Si_q e14 (by decide) (hi_Si_q e13 (by decide) (hi_Si_s e12)))), by decide, fun x hx => absurd hx (List.not_mem_nil), q9, r165, m16 ⟨hm_Ao e10, hk_Ao e10⟩, n16 (hn_Ao e10), fun k x hk => absurd (get_lt hk) (Nat.not_lt_zero k)⟩⟩
  · rcases hz with y | y | y
    · exact Or.inl y
    · rw [r161] at y
      exact Or.inr (Option.some.inj y ▸ hq2)
    · rw [r165] at y
      exact Or.inr (Option.some.inj y ▸ fun z => hq9 (s7 _ z).1.1)
  · rw [I16 I2, byV_0 (Nat.zero_le _)]
    show (0 : Int32) = sB 0
    decide
  · exact hw_Sw_s e16
/-- a word's postings, found or made -/
theorem q_own {Q : Nat → cS → Prop} {mc ms : Nat} {PQ : Int64 → List (Nat × Nat)} (hdp : dpO dp S) (hw : wC S ρ dp wl ws m wp) (hok : wOk wp PQ) (hm : m < 5000) (hwl : wp.length < 4000) (hc : (∀ (j : Nat) (x : Int64 × List (Nat × Nat)), wp[j]? = some x → x.1 ≠ c) → 3 + (if ws.length = m then 1 else 0) ≤ mc) (hs : (∀ (j : Nat) (x : Int64 × List (Nat × Nat)), wp[j]? = some x → x.1 ≠ c) → 18 + (if ws.length = m then gwL m m else 0) ≤ ms)
    (h1 : ∀ (k p : Nat), ws[k]? = some p → wp[k]? = some (c, PQ c) → Q p S)
    (h2 : ∀ (T : cS) (k p : Nat), cSub S T (fun z => lsF S dp wl z) → wC T (rtg S id ρ 81) dp wl (ws.take k ++ p :: ws.drop k) (gwL m ws.length) (wp.take k ++ (c, []) :: wp.drop k) → plW wp c k → (∀ x : Int64 × List (Nat × Nat), wp[k]? = some x → x.1 ≠ c) → Q p T) : k_X8_ownPostings Q dp mc ms wl c S := by
  obtain ⟨ht, htag, hl, hnd, o, ho⟩ := hw
  have hmm := ht.2.2.1
  have hw160 : ∀ (j p : Nat) (x : Int64 × List (Nat × Nat)), ws[j]? = some p → wp[j]? = some x → cw S 160 p = x.1 := fun j p x hp hx => (ho j p x hp hx).1.1.2.1
  unfold k_X8_ownPostings
  refine ⟨⟨by omega, by omega⟩, q_placeOf ht hl hw160 hok.1 (fun k hk => ⟨ht.1, ⟨by omega, by omega⟩, q_lsize ht ?_⟩)⟩
  have new : (∀ x : Int64 × List (Nat × Nat), wp[k]? = some x → x.1 ≠ c) → k_X8_ownPostings_39 Q dp mc ms wl c (nI k) 0 0 S := by
    intro hn
    have hnone := plW_none hok.1 hk hn
    have hc := hc hnone
    have hs := hs hnone
    unfold k_X8_ownPostings_39
    refine ⟨⟨by omega, by omega⟩, fun q hq S4 e4 => ?_⟩
    have s4 : cSub S S4 (fun _ => False) := e4 ▸ sub_N hq
    have q4 : cA S4 q 5 := ⟨hm_No e4, hk_No e4⟩
    refine ⟨2, 8, by omega, by omega, q_postInit q4 (Nat.le_refl _) (Nat.le_refl _) (fun S7 s7 hF g7 => ?_)⟩
    have nq : ∀ {z : Nat}, z ∈ cL S → ¬ z = q := fun hz => cm_nq hq hz
    have s47 : cSub S S7 (fun _ => False) := sub_tr s4 s7 (fun a ha z => absurd z (nq ha))
    have ht7 := lsT_sub s47 ht (fun _ _ z => z)
    have hkl : k ≤ ws.length := by rw [hl]; exact hk.1
    refine ⟨ht7.1, mc - 3, ms - 18, by omega, by omega, q_laddAt dp_O ht7 hm hkl g7.1.1 (by omega) (by omega) (fun T v t => ⟨⟨by omega, by omega⟩, ?_⟩)⟩
    have r7 : ∀ q, cr S7 q wl = cr S q wl := fun q => sub_cr s47 ht.1 (fun z => z)
    have F7 : ∀ z, lsF S7 dp wl z → lsF S dp wl z := fun z hz => by unfold lsF at hz ⊢; rw [r7] at hz; exact hz
    have sT : cSub S T (fun z => lsF S dp wl z) := sub_tr (sub_wk s47 (fun _ _ z => z.elim)) v.1 (fun a _ z => F7 a z)
    have nF : ∀ z, pCF S7 q z → ¬ lsF S7 dp wl z := by
      intro z hz hz2
      rcases hF z hz with y | y
      · subst y
        rcases hz2 with u | ⟨u, nd⟩
        · exact cA_ne g7.1.1 ht7.1 (by decide) u
        · obtain ⟨-, -, -, -, -, -, b, hb, hx⟩ := ht7
          obtain rfl : b = z := Option.some.inj (hb.symm.trans u)
          rcases hx with hx | hx
          · exact nd hx.1
          · exact cA_ne hx.2.2.1 g7.1.1 (by decide) rfl
      · exact y ((s4 z (lsF_in ht (F7 z hz2))).1.1)
    have gT : pC T q c [] [] 0 0 := pC_sub v.1 g7 nF
    have pCFT : ∀ {p : Nat} {x : Int64 × List (Nat × Nat)} {j : Nat}, ws[j]? = some p → wp[j]? = some x → pP T p x ∧ ∀ z, pCF T p z → pCF S p z := fun {p x j} hp hx => by
      obtain ⟨⟨a1, a2⟩, a3⟩ := ho j p x hp hx
      have nl : ∀ z, pCF S p z → ¬ lsF S dp wl z := by
        intro z hz hz2
        obtain ⟨⟨q1, q2, q3, b, b1, b2, b3⟩, g2, g3, g4, g5, g6, g7, d, d1, d2, d3, d4⟩ := a1
        have kz : cK S z = 5 ∨ cK S z = 13 ∨ cK S z = 14 := by
          rcases hz with y | y | y
          · rw [y]; exact Or.inl q1.2
          · rw [← Option.some.inj (b1.symm.trans y)]; exact Or.inr (Or.inl b2.2)
          · rw [← Option.some.inj (d1.symm.trans y)]; exact Or.inr (Or.inr d2.2)
        have kl : cK S z = 12 ∨ cK S z = 17 := by
          obtain ⟨l1, -, -, -, -, -, b', hb, hx'⟩ := ht
          rcases hz2 with y | ⟨y, y2⟩
          · rw [y]; exact Or.inl l1.2
          · obtain rfl : b' = z := Option.some.inj (hb.symm.trans y)
            rcases hx' with hx' | hx'
            · exact absurd hx'.1 y2
            · exact Or.inr hx'.2.2.1.2
        omega
      refine ⟨⟨pC_sub sT a1 nl, a2⟩, fun z hz => ?_⟩
      have np := nl p (Or.inl rfl)
      unfold pCF at hz ⊢
      rw [sub_cr sT a1.1.1 np, sub_cr sT a1.1.1 np] at hz
      exact hz
    have qnew : ∀ {j : Nat}, ¬ ws[j]? = some q := fun hj => hq (ht.2.2.2.2.2.1 q (List.mem_of_getElem? hj)).1
    have kw : k ≤ wp.length := hk.1
    refine h2 T k q sT ⟨t, fun z hz => ?_, by rw [insA_len hkl, insA_len kw, hl], fun i j p hi hj => ?_, fun z => if z ∈ cL S then o z else q, fun j p x hp hx => ?_⟩ hk hn
    · rcases v.2 z hz with y | y
      · exact (rtg_o (lsF_in ht (F7 z y))).trans (htag z (F7 z y))
      · exact rtg_n (fun w => y (s47 z w).1.1)
    · rcases (insA_get hkl).mp hi with ⟨a1, a2⟩ | ⟨a1, a2⟩ | ⟨a1, a2⟩
      · rcases (insA_get hkl).mp hj with ⟨b1, b2⟩ | ⟨b1, b2⟩ | ⟨b1, b2⟩
        · exact hnd i j p a2 b2
        · rw [b2] at a2; exact absurd a2 qnew
        · have := hnd i (j - 1) p a2 b2; omega
      · rcases (insA_get hkl).mp hj with ⟨b1, b2⟩ | ⟨b1, b2⟩ | ⟨b1, b2⟩
        · rw [a2] at b2; exact absurd b2 qnew
        · omega
        · rw [a2] at b2; exact absurd b2 qnew
      · rcases (insA_get hkl).mp hj with ⟨b1, b2⟩ | ⟨b1, b2⟩ | ⟨b1, b2⟩
        · have := hnd (i - 1) j p a2 b2; omega
        · rw [b2] at a2; exact absurd a2 qnew
        · have := hnd (i - 1) (j - 1) p a2 b2; omega
    · have old : ∀ {i : Nat}, ws[i]? = some p → wp[i]? = some x → pP T p x ∧ ∀ z, pCF T p z → rtg S id ρ 81 z = 81 ∧ (if z ∈ cL S then o z else q) = p := fun {i} a b => by
        obtain ⟨u1, u2⟩ := pCFT a b
        obtain ⟨⟨a1, -⟩, a3⟩ := ho i p x a b
        refine ⟨u1, fun z hz => ?_⟩
        have hz' := u2 z hz
        have hin := pCF_in a1 hz'
        rw [if_pos hin]
        exact ⟨(rtg_o hin).trans (a3 z hz').1, (a3 z hz').2⟩
      rcases (insA_get hkl).mp hp with ⟨a1, a2⟩ | ⟨a1, a2⟩ | ⟨a1, a2⟩
      · rcases (insA_get kw).mp hx with ⟨b1, b2⟩ | ⟨b1, b2⟩ | ⟨b1, b2⟩
        · exact old a2 b2
        · omega
        · omega
      · rcases (insA_get kw).mp hx with ⟨b1, b2⟩ | ⟨b1, b2⟩ | ⟨b1, b2⟩
        · omega
        · rw [a2, b2]
          refine ⟨⟨gT, trivial⟩, fun z hz => ?_⟩
          have hz7 : pCF S7 q z := by
            have nqF := nF q (Or.inl rfl)
            unfold pCF at hz ⊢
            rw [sub_cr v.1 g7.1.1 nqF, sub_cr v.1 g7.1.1 nqF] at hz
            exact hz
          have hout : z ∉ cL S := by
            rcases hF z hz7 with y | y
            · rw [y]; exact hq
            · exact fun w => y (s4 z w).1.1
          exact ⟨rtg_n hout, if_neg hout⟩
        · omega
      · rcases (insA_get kw).mp hx with ⟨b1, b2⟩ | ⟨b1, b2⟩ | ⟨b1, b2⟩
        · omega
        · omega
        · exact old a2 b2
  refine pk_le ws.length k (fun z => new (fun x hx => absurd (get_lt hx) (by omega))) (fun hlt => ?_) (hb := by have := hk.1; have := ht.2.2.2.1; omega) (ha := by have := ht.2.2.2.1; omega)
  obtain ⟨p, hp⟩ := get_ex hlt
  obtain ⟨x, hx⟩ := get_ex (l := wp) (k := k) (by omega)
  have pA := (ho k p x hp hx).1.1.1.1
  refine ⟨ht.1, ⟨by omega, by omega⟩, q_lget ht hp ⟨pA, pA, ?_⟩⟩
  rw [hw160 k p x hp hx]
  refine w_l (fun z => new (fun y hy => ?_)) (fun z => ⟨ht.1, ⟨by omega, by omega⟩, q_lget ht hp ⟨pA, ⟨by omega, by omega⟩, h1 k p hp ?_⟩⟩)
  · rw [hx] at hy
    rw [← Option.some.inj hy]; exact z
  · rw [hx]
    have := (hok.2.1 k x hx).1
    rw [← z, ← this]
end WC
