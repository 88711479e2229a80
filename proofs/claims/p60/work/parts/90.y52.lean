/-! queries: leaves -/
section LF
variable {S T : cS} {ρ ρ' : Nat → Nat} {dp p : Nat} {M : List Nat}
theorem min6 {n : Nat} (h : n ≤ 6) : (if nI 6 < (if nI n < nI 0 then nI 0 else nI n) then nI 6 else (if nI n < nI 0 then nI 0 else nI n)) = nI n := by
  rw [if_neg (show ¬ nI n < nI 0 from nI_pos (by omega)), if_neg (fun c => absurd ((nI_ltI (by decide) (by omega)).mp c) (by omega))]
theorem min12 {n : Nat} (h : n ≤ 12) : (if nI 12 < (if nI n < nI 0 then nI 0 else nI n) then nI 12 else (if nI n < nI 0 then nI 0 else nI n)) = nI n := by
  rw [if_neg (show ¬ nI n < nI 0 from nI_pos (by omega)), if_neg (fun c => absurd ((nI_ltI (by decide) (by omega)).mp c) (by omega))]
/-- a leaf of tokens -/
theorem q_ofTokens {Q : Nat → cS → Prop} {mc ms k f l t m : Nat} {tk : List (Int64 × Nat)} (hk : k ≤ 2) (ht : tTk S t m tk) (hl : tk.length ≤ 6) (hr : ∀ i, i < tk.length → 0 < i → (tk.getD (i - 1) (0, 0)).2 ≤ (tk.getD i (0, 0)).2) (hm : 7 ≤ mc) (hs : 23 ≤ ms) (h : ∀ T ρ' p, fr S T ρ ρ' [] → p ∉ cL S → ndT T ρ' 12 p ((k, f, l, 0), false, tk, [], 0) false → Q p T) : k_X4_ofTokens Q dp mc ms (nI (ckN k)) (nI f) (nI l) t S := by
  unfold k_X4_ofTokens
  refine ⟨⟨by omega, by omega⟩, fun p hp S2 e2 => ⟨4, 0, by omega, by omega, q_ndInit ⟨hm_No e2, hk_No e2⟩ (Nat.le_refl _) (fun S5 g => ?_)⟩⟩
  have s2 : cSub S S2 (fun _ => False) := e2 ▸ sub_N hp
  obtain ⟨s5, p5, ⟨i1, i2, i3, i4, i5, i6⟩, gw, a, b, c, e, ⟨n1, n2, n3, n4⟩, ⟨a1, a2, a3⟩, ⟨b1, b2, b3⟩, ⟨c1, c2, c3⟩, ⟨d1, d2, d3⟩, be, ce⟩ := g
  have s05 : cSub S S5 (fun _ => False) := sub_tr s2 s5 (fun x hx z => absurd z (cm_nq hp hx))
  have nf : ¬ False := fun z => z
  have t5 := tTk_sub s05 ht (fun _ _ => nf)
  refine ⟨t5.1, ⟨by omega, by omega⟩, ⟨by omega, by omega⟩, ?_⟩
  rw [t5.2.1, min6 hl]
  rintro _ rfl
  refine ⟨tk.length, rfl, by omega, by omega, by omega, fun q8 hq8 S9 e9 => ?_⟩
  have s9 : cSub S5 S9 (fun _ => False) := e9 ▸ sub_A hq8
  refine ⟨sub_A1 s9 p5, fun S10 e10 => ⟨tk.length, rfl, by omega, by omega, by omega, fun q12 hq12 S13 e13 => ?_⟩⟩
  have u10 : cSub S9 S10 (fun z => z = p) := e10 ▸ sub_Sr rfl
  have s10 : cSub S5 S10 (fun z => z = p) := sub_tr (sub_wk s9 (fun _ _ z => z.elim)) u10 (fun _ _ z => z)
  have u13 : cSub S10 S13 (fun _ => False) := e13 ▸ sub_A hq12
  have s13 : cSub S5 S13 (fun z => z = p) := sub_tr s10 (sub_wk u13 (fun _ _ z => z.elim)) (fun _ _ z => z)
  refine ⟨sub_A1 s13 p5, fun S14 e14 => ?_⟩
  have u14 : cSub S13 S14 (fun z => z = p) := e14 ▸ sub_Sr rfl
  have s14 : cSub S5 S14 (fun z => z = p) := sub_tr s13 u14 (fun _ _ z => z)
  have p14 := sub_A1 s14 p5
  have A9 : cA S9 q8 15 := ⟨hm_Ao e9, hk_Ao e9⟩
  have A14 : cA S14 q8 15 := sub_A1 u14 (sub_A1 u13 (sub_A1 u10 A9))
  have N14 : cn S14 q8 = tk.length := (sub_cn u14 (sub_A1 u13 (sub_A1 u10 A9))).trans ((sub_cn u13 (sub_A1 u10 A9)).trans ((sub_cn u10 A9).trans (hn_Ao e9)))
  have B13 : cA S13 q12 14 := ⟨hm_Ao e13, hk_Ao e13⟩
  have B14 : cA S14 q12 14 := sub_A1 u14 B13
  have NB14 : cn S14 q12 = tk.length := (sub_cn u14 B13).trans (hn_Ao e13)
  have r134 : cr S14 134 p = some q8 := hr_Sr_q e14 (by decide) (hr_A e13 (hr_Sr_s e10))
  have r135 : cr S14 135 p = some q12 := hr_Sr_s e14
  have rX : ∀ q, q ≠ 134 → q ≠ 135 → cr S14 q p = cr S5 q p := fun q h1 h2 => hr_Sr_q e14 h2 (hr_A e13 (hr_Sr_q e10 h1 (hr_A e9 rfl)))
  have iX : ∀ q, ci S14 q p = ci S5 q p := fun q => hi_Sr e14 (hi_A e13 (hi_Sr e10 (hi_A e9 rfl)))
  have wX : ∀ q, cw S14 q p = cw S5 q p := fun q => hw_Sr e14 (hw_A e13 (hw_Sr e10 (hw_A e9 rfl)))
  have out2 : ∀ {z : Nat}, z ∉ cL S2 → z ∉ cL S := fun h z => h (s2 _ z).1.1
  have out5 : ∀ {z : Nat}, z ∉ cL S5 → z ∉ cL S := fun h z => h (s05 _ z).1.1
  have nq8 : q8 ∉ cL S := out5 hq8
  have nq12 : q12 ∉ cL S := fun z => hq12 (s10 _ (s05 _ z).1.1).1.1
  have s014 : cSub S S14 (fun _ => False) := sub_tr s05 s14 (fun x hx z => absurd z (cm_nq hp hx))
  have eq8 : q8 ≠ e := fun h => hq8 (h ▸ d2.1)
  have eq12 : q12 ≠ e := fun h => hq12 (h ▸ (s10 _ d2.1).1.1)
  have d14 : cA S14 e 14 := sub_A1 s14 d2
  have pne : ∀ {z j : Nat}, cA S14 z j → j ≠ 4 → ¬ p = z := fun hz hj => cA_ne p14 hz (Ne.symm hj)
  unfold k_X4_ofTokens_48L
  refine lfp_cnt tk.length (fun j y => ∃ S', cSub S14 S' (fun z => z = q8 ∨ z = q12) ∧ (∀ i x, i < j → tk[i]? = some x → cJ S' q8 i = x.1 ∧ cI S' q12 i = nI (gpT tk i)) ∧ y = (t, p, nI tk.length, nI j, 0 + 1 + 4 + 1 + 1, 0 + 11 + 0 + tk.length + tk.length, S')) ?_ ⟨S14, sub_rf, fun i x hi => absurd hi (Nat.not_lt_zero i), rfl⟩
  rintro P j _ hj ⟨S', s', hw, rfl⟩ ih
  show k_X4_ofTokens_48 Q dp mc ms _ t p (nI tk.length) (nI j) (0 + 1 + 4 + 1 + 1) (0 + 11 + 0 + tk.length + tk.length) S'
  have s0' : cSub S S' (fun _ => False) := sub_tr s014 s' (fun x hx z => by rcases z with z | z <;> subst z; exact nq8 hx; exact nq12 hx)
  have t' := tTk_sub s0' ht (fun _ _ => nf)
  have np : ¬ (p = q8 ∨ p = q12) := fun z => z.elim (pne A14 (by decide)) (pne B14 (by decide))
  have p' := sub_A1 s' p14
  have r' : ∀ q, cr S' q p = cr S14 q p := fun q => sub_cr s' p14 np
  have A' := sub_A1 s' A14
  have B' := sub_A1 s' B14
  have NA' := (sub_cn s' A14).trans N14
  have NB' := (sub_cn s' B14).trans NB14
  unfold k_X4_ofTokens_48
  refine pk_le tk.length j (fun z => ?_) (fun z => ?_)
  · obtain rfl : j = tk.length := by omega
    refine ⟨⟨by omega, by omega⟩, h S' (ntg S ρ e) p (ntg_fr s0') hp ?_⟩
    have ne' : ¬ (e = q8 ∨ e = q12) := fun z => z.elim (fun h => eq8 h.symm) (fun h => eq12 h.symm)
    have c14 : cA S14 c 14 := sub_A1 s14 c2
    have cne : ¬ (c = q8 ∨ c = q12) := fun z => z.elim (cA_ne c14 A14 (by decide)) (fun h => hq12 (h ▸ (s10 _ c2.1).1.1))
    have k3 : ¬ k = 3 := by omega
    have k4 : ¬ k = 4 := by omega
    have k5 : ¬ k = 5 := by omega
    have pt : ptN ((k, f, l, 0), false, tk, [], 0) = [] := by unfold ptN nK; rw [if_neg k3, if_neg k4]
    have ii : ∀ q, ci S' q p = ci S5 q p := fun q => (sub_ci s' p14 np).trans (iX q)
    refine ⟨p', ntg_n hp (cA_ne p5 d2 (by decide)), ⟨(ii _).trans i1, (ii _).trans i2, (ii _).trans i3, (ii _).trans i4, (ii _).trans i5, (ii _).trans i6⟩, ?_, ⟨q8, (r' _).trans r134, A', NA', ntg_n nq8 eq8, fun i x hi => (hw i x (get_lt hi) hi).1⟩, ⟨q12, (r' _).trans r135, B', NB', ntg_n nq12 eq12, fun i hi => ?_⟩, ⟨c, (r' _).trans ((rX _ (by decide) (by decide)).trans c1), sub_A1 s' c14, ?_, ntg_n (out2 n3) ce, fun i y hi => by rw [pt] at hi; exact absurd (get_lt hi) (Nat.not_lt_zero i)⟩, ⟨e, (r' _).trans ((rX _ (by decide) (by decide)).trans d1), sub_A1 s' d14, ?_, ntg_e (out2 n4)⟩⟩
    · show cw S' 137 p = lN (if k = 5 then 0 else 0)
      rw [if_neg k5, sub_cw s' p14 np, wX]; exact gw
    · have hi : i < tk.length := hi
      obtain ⟨x, hx⟩ := get_ex hi
      exact (hw i x hi hx).2
    · rw [pt]; exact (sub_cn s' c14).trans ((sub_cn s14 c2).trans c3)
    · show cn S' e = if k = 5 then _ else 0
      rw [if_neg k5]; exact (sub_cn s' d14).trans ((sub_cn s14 d2).trans d3)
  · obtain ⟨x, hx⟩ := get_ex z
    refine ⟨p', q8, (r' _).trans r134, t'.1, ⟨by omega, by omega⟩, q_codeAt t' hx ⟨cX_mk A' NA' (by omega) (show j < tk.length by omega) rfl, fun S17 e17 => ?_⟩⟩
    rw [nI_clamp (by omega)] at e17
    have s17 : cSub S' S17 (fun z => z = q8) := e17 ▸ sub_SJ rfl
    have p17 := sub_A1 s17 p'
    have npq : ¬ p = q8 := fun z => np (Or.inl z)
    have t17 : tTk S17 t m tk := tTk_sub s17 t' (fun u hu e => by subst e; exact nq8 (tF_in ht (by unfold tF at hu ⊢; rw [sub_cr s0' ht.1 nf, sub_cr s0' ht.1 nf] at hu; exact hu)))
    have B17 := sub_A1 s17 B'
    have NB17 := (sub_cn s17 B').trans NB'
    have j17 : cJ S17 q8 = fun i => if i = j then x.1 else cJ S' q8 i := by rw [e17]; exact mU_s
    have fin : ∀ (v : Nat), v = gpT tk j → k_X4_ofTokens_100 Q dp mc ms (fun b0 b1 b2 b3 b4 b5 S => P (b0, b1, b2, b3, b4, b5, S)) t p (nI tk.length) (nI j) (nI v) (nI j) q12 (0 + 1 + 4 + 1 + 1) (0 + 11 + 0 + tk.length + tk.length) S17 := by
      intro v hv
      unfold k_X4_ofTokens_100
      refine ⟨cX_mk B17 NB17 (by omega) (show j < tk.length by omega) rfl, fun S21 e21 => ?_⟩
      rw [nI_clamp (by omega)] at e21
      have s21 : cSub S17 S21 (fun z => z = q12) := e21 ▸ sub_SI rfl
      rintro _ rfl
      rw [nI_add]
      have b21 : cI S21 q12 = fun i => if i = j then nI v else cI S17 q12 i := by rw [e21]; exact mU_s
      have nAB : ¬ q12 = q8 := cA_ne B' A' (by decide)
      refine ih _ z ⟨S21, sub_tr s' (sub_tr (sub_wk s17 (fun _ _ z => Or.inl z)) s21 (fun _ _ z => Or.inr z)) (fun _ _ z => z), fun i y hi hy => ?_, rfl⟩
      have hJ : cJ S21 q8 = cJ S17 q8 := sub_cJ s21 (sub_A1 s17 A') (fun z => nAB z.symm)
      have hI : cI S17 q12 = cI S' q12 := sub_cI s17 B' nAB
      rw [hJ, j17, b21]
      by_cases c : i = j
      · subst c
        obtain rfl : x = y := Option.some.inj (hx.symm.trans hy)
        exact ⟨if_pos rfl, (if_pos rfl).trans (by rw [hv])⟩
      · obtain ⟨h1, h2⟩ := hw i y (by omega) hy
        exact ⟨(if_neg c).trans h1, (if_neg c).trans ((congrFun hI i).trans h2)⟩
    have r17 : cr S17 135 p = some q12 := (sub_cr s17 p' npq).trans ((r' _).trans r135)
    refine ⟨p17, q12, r17, w_nz j (fun h0 => ?_) (fun h0 => fin 0 (by unfold gpT; rw [if_pos h0]))⟩
    obtain ⟨y, hy⟩ := get_ex (l := tk) (k := j - 1) (by omega)
    refine ⟨t17.1, ⟨by omega, by omega⟩, q_placeAt t17 hx ⟨t17.1, ⟨by omega, by omega⟩, ?_⟩⟩
    rw [pk_sub (show 1 ≤ j by omega)]
    refine q_placeAt t17 hy ?_
    have gx : tk.getD j (0, 0) = x := by rw [List.getD_eq_getElem?_getD, hx]; rfl
    have gy : tk.getD (j - 1) (0, 0) = y := by rw [List.getD_eq_getElem?_getD, hy]; rfl
    have hle := hr j z h0
    rw [gx, gy] at hle
    rw [pk_sub hle]
    refine fin _ ?_
    unfold gpT
    rw [if_neg (by omega), gx, gy]
/-- a FUZZY -/
theorem q_ofEdits {Q : Nat → cS → Prop} {mc ms f l w : Nat} (hw : w < 2 ^ 63) (hm : 6 ≤ mc) (hs : 24 ≤ ms) (h : ∀ T ρ' p, fr S T ρ ρ' [] → p ∉ cL S → ndT T ρ' 12 p ((5, f, l, 0), false, [], [], w) false → Q p T) : k_X4_ofEdits Q dp mc ms (nI f) (nI l) (lN w) S := by
  have hlw := lnW_le w
  unfold k_X4_ofEdits
  refine ⟨⟨by omega, by omega⟩, fun p hp S2 e2 => ⟨4, 0, by omega, by omega, q_ndInit ⟨hm_No e2, hk_No e2⟩ (Nat.le_refl _) (fun S5 g => ?_)⟩⟩
  have s2 : cSub S S2 (fun _ => False) := e2 ▸ sub_N hp
  obtain ⟨s5, p5, ⟨i1, i2, i3, i4, i5, i6⟩, gw, a, b, c, e, ⟨n1, n2, n3, n4⟩, ⟨a1, a2, a3⟩, ⟨b1, b2, b3⟩, ⟨c1, c2, c3⟩, ⟨d1, d2, d3⟩, be, ce⟩ := g
  have s05 : cSub S S5 (fun _ => False) := sub_tr s2 s5 (fun x hx z => absurd z (cm_nq hp hx))
  refine ⟨p5, fun S6 e6 => ⟨⟨by omega, by omega⟩, q_lengthOf hw ?_⟩⟩
  have u6 : cSub S5 S6 (fun z => z = p) := e6 ▸ sub_Sw rfl
  rw [nI_add]
  refine ⟨lnW w + 1, rfl, by omega, by omega, by omega, fun q9 hq9 S10 e10 => ?_⟩
  have u10 : cSub S6 S10 (fun z => z = p) := e10 ▸ sub_A hq9
  refine ⟨sub_A1 u10 (sub_A1 u6 p5), fun S11 e11 => ⟨⟨by omega, by omega⟩, ?_⟩⟩
  have u11 : cSub S10 S11 (fun z => z = p) := e11 ▸ sub_Sr rfl
  have s511 : cSub S5 S11 (fun z => z = p) := sub_tr u6 (sub_tr u10 u11 (fun _ _ z => z)) (fun _ _ z => z)
  have s011 : cSub S S11 (fun _ => False) := sub_tr s05 s511 (fun x hx z => absurd z (cm_nq hp hx))
  have out2 : ∀ {z : Nat}, z ∉ cL S2 → z ∉ cL S := fun h z => h (s2 _ z).1.1
  have nq9 : q9 ∉ cL S := fun z => hq9 (u6 _ (s05 _ z).1.1).1.1
  have ne9 : ∀ {z : Nat}, z ∈ cL S5 → z ≠ q9 := fun hz => cm_nq hq9 (u6 _ hz).1.1
  have A10 : cA S10 q9 14 := ⟨hm_Ao e10, hk_Ao e10⟩
  have ii : ∀ q, ci S11 q p = ci S5 q p := fun q => hi_Sr e11 (hi_A e10 (hi_Sw e6 rfl))
  have rr : ∀ q, q ≠ 138 → cr S11 q p = cr S5 q p := fun q hq => hr_Sr_q e11 hq (hr_A e10 (hr_Sw e6 rfl))
  have pt : ptN ((5, f, l, 0), false, [], [], w) = [] := by
    unfold ptN
    rw [if_neg (show ¬ nK ((5, f, l, 0), false, [], [], w) = 3 from (by decide : ¬ (5 : Nat) = 3)), if_neg (show ¬ nK ((5, f, l, 0), false, [], [], w) = 4 from (by decide : ¬ (5 : Nat) = 4))]
  refine h S11 (ntg S ρ q9) p (ntg_fr s011) hp ⟨sub_A1 s511 p5, ntg_n hp (ne9 p5.1), ⟨(ii _).trans i1, (ii _).trans i2, (ii _).trans i3, (ii _).trans i4, (ii _).trans i5, (ii _).trans i6⟩, hw_Sr e11 (hw_A e10 (hw_Sw_s e6)), ⟨a, (rr _ (by decide)).trans a1, sub_A1 s511 a2, (sub_cn s511 a2).trans a3, ntg_n (out2 n1) (ne9 a2.1), fun k x hk => absurd (get_lt hk) (Nat.not_lt_zero k)⟩, ⟨b, (rr _ (by decide)).trans b1, sub_A1 s511 b2, (sub_cn s511 b2).trans b3, ntg_n (out2 n2) (ne9 b2.1), fun k hk => absurd hk (Nat.not_lt_zero k)⟩, ⟨c, (rr _ (by decide)).trans c1, sub_A1 s511 c2, by rw [pt]; exact (sub_cn s511 c2).trans c3, ntg_n (out2 n3) (ne9 c2.1), fun k y hk => by rw [pt] at hk; exact absurd (get_lt hk) (Nat.not_lt_zero k)⟩, ⟨q9, hr_Sr_s e11, sub_A1 u11 A10, (sub_cn u11 A10).trans (hn_Ao e10), ntg_e nq9⟩⟩
/-- a row of the pattern is there, filled -/
theorem ndT_pat {S5 S10 S' : cS} {k f q8 e : Nat} {d : Nd} (hd : d.1 = (k, f, 0, 0)) (hd2 : d.2.1 = false) (hd3 : d.2.2.1 = []) (hk : k = 3 ∨ k = 4) (hp : p ∉ cL S) (p5 : cA S5 p 4) (hi : ci S5 128 p = nI 2 ∧ ci S5 129 p = nI f ∧ ci S5 130 p = nI 0 ∧ ci S5 131 p = bI false ∧ ci S5 132 p = nI 0 ∧ ci S5 133 p = bI false) (gw : cw S5 137 p = 0) {a b : Nat} (ha : cr S5 134 p = some a ∧ cA S5 a 15 ∧ cn S5 a = 0) (hb : cr S5 135 p = some b ∧ cA S5 b 14 ∧ cn S5 b = 0) (he : cr S5 138 p = some e ∧ cA S5 e 14 ∧ cn S5 e = 0) (na : a ∉ cL S) (nb : b ∉ cL S) (ne : e ∉ cL S) (be : b ≠ e) (hq : q8 ∉ cL S5) (s05 : cSub S S5 (fun _ => False)) (e10 : ∃ S9, S9 = cNewA S5 q8 14 (ptN d).length ∧ S10 = cSr S9 136 p (some q8)) (s' : cSub S10 S' (fun z => z = q8)) (hw : ∀ i y, (ptN d)[i]? = some y → cI S' q8 i = nI y) : fr S S' ρ (ntg S ρ e) [] ∧ ndT S' (ntg S ρ e) 12 p d false := by
  obtain ⟨S9, e9, e10⟩ := e10
  obtain ⟨i1, i2, i3, i4, i5, i6⟩ := hi
  obtain ⟨a1, a2, a3⟩ := ha
  obtain ⟨b1, b2, b3⟩ := hb
  obtain ⟨d1, d2, d3⟩ := he
  have u9 : cSub S5 S9 (fun _ => False) := e9 ▸ sub_A hq
  have u10 : cSub S9 S10 (fun z => z = p) := e10 ▸ sub_Sr rfl
  have s510 : cSub S5 S10 (fun z => z = p) := sub_tr (sub_wk u9 (fun _ _ z => z.elim)) u10 (fun _ _ z => z)
  have s5' : cSub S5 S' (fun z => z = p) := sub_tr s510 s' (fun x hx z => absurd z (cm_nq hq hx))
  have s0' : cSub S S' (fun _ => False) := sub_tr s05 s5' (fun x hx z => absurd z (cm_nq hp hx))
  have A9 : cA S9 q8 14 := ⟨hm_Ao e9, hk_Ao e9⟩
  have p10 := sub_A1 s510 p5
  have npq : ¬ p = q8 := cm_nq hq p5.1
  have nq : q8 ∉ cL S := fun z => hq (s05 _ z).1.1
  have ii : ∀ q, ci S' q p = ci S5 q p := fun q => (sub_ci s' p10 npq).trans (hi_Sr e10 (hi_A e9 rfl))
  have rr : ∀ q, q ≠ 136 → cr S' q p = cr S5 q p := fun q hq => (sub_cr s' p10 npq).trans (hr_Sr_q e10 hq (hr_A e9 rfl))
  have r136 : cr S' 136 p = some q8 := (sub_cr s' p10 npq).trans (hr_Sr_s e10)
  have hkd : nK d = k := by unfold nK; rw [hd]
  have hT : nT d = [] := hd3
  refine ⟨ntg_fr s0', sub_A1 s5' p5, ntg_n hp (cA_ne p5 d2 (by decide)), ⟨?_, ?_, ?_, ?_, ?_, (ii _).trans i6⟩, ?_, ⟨a, (rr _ (by decide)).trans a1, sub_A1 s5' a2, by rw [hT]; exact (sub_cn s5' a2).trans a3, ntg_n na (cA_ne a2 d2 (by decide)), fun i x hi => by rw [hT] at hi; exact absurd (get_lt hi) (Nat.not_lt_zero i)⟩, ⟨b, (rr _ (by decide)).trans b1, sub_A1 s5' b2, by rw [hT]; exact (sub_cn s5' b2).trans b3, ntg_n nb be, fun i hi => by rw [hT] at hi; exact absurd hi (Nat.not_lt_zero i)⟩, ⟨q8, r136, sub_A1 s' (sub_A1 u10 A9), (sub_cn s' (sub_A1 u10 A9)).trans ((sub_cn u10 A9).trans (hn_Ao e9)), ntg_n nq (fun h => hq (h ▸ d2.1)), hw⟩, ⟨e, (rr _ (by decide)).trans d1, sub_A1 s5' d2, ?_, ntg_e ne⟩⟩
  · rw [ii, i1, hkd]
    rcases hk with rfl | rfl <;> rfl
  · rw [ii, i2]; unfold nF; rw [hd]
  · rw [ii, i3]; unfold nL; rw [hd]
  · rw [ii, i4]; unfold nO; rw [hd2]
  · rw [ii, i5]; unfold nP; rw [hd]
  · rw [sub_cw s' p10 npq, show cw S10 137 p = cw S5 137 p from hw_Sr e10 (hw_A e9 rfl), gw, hkd, if_neg (by omega)]; rfl
  · rw [hkd, if_neg (by omega)]; exact (sub_cn s5' d2).trans d3
/-- a PREFIX -/
theorem q_ofPrefix {Q : Nat → cS → Prop} {mc ms f w : Nat} (hw : w < 2 ^ 63) (hm : 6 ≤ mc) (hs : 24 ≤ ms) (h : ∀ T ρ' p, fr S T ρ ρ' [] → p ∉ cL S → ndT T ρ' 12 p ((3, f, 0, 0), false, [], [], w) false → Q p T) : k_X4_ofPrefix Q dp mc ms (nI f) (lN w) S := by
  have hlw := lnW_le w
  have ptE : ptN ((3, f, 0, 0), false, [], [], w) = (List.range (lnW w)).map (dg w) ++ [38] := by
    unfold ptN
    rw [if_pos (show nK ((3, f, 0, 0), false, [], [], w) = 3 from rfl)]; rfl
  have ptl : (ptN ((3, f, 0, 0), false, [], [], w)).length = lnW w + 1 := by rw [ptE, List.length_append, List.length_map, List.length_range]; rfl
  unfold k_X4_ofPrefix
  refine ⟨⟨by omega, by omega⟩, fun p hp S2 e2 => ⟨4, 0, by omega, by omega, q_ndInit ⟨hm_No e2, hk_No e2⟩ (Nat.le_refl _) (fun S5 g => ?_)⟩⟩
  have s2 : cSub S S2 (fun _ => False) := e2 ▸ sub_N hp
  obtain ⟨s5, p5, hi, gw, a, b, c, e, ⟨n1, n2, n3, n4⟩, ha, hb, hc, he, be, ce⟩ := g
  have s05 : cSub S S5 (fun _ => False) := sub_tr s2 s5 (fun x hx z => absurd z (cm_nq hp hx))
  have out2 : ∀ {z : Nat}, z ∉ cL S2 → z ∉ cL S := fun h z => h (s2 _ z).1.1
  refine ⟨⟨by omega, by omega⟩, q_lengthOf hw ?_⟩
  rw [nI_add]
  refine ⟨lnW w + 1, rfl, by omega, by omega, by omega, fun q8 hq8 S9 e9 => ?_⟩
  have u9 : cSub S5 S9 (fun _ => False) := e9 ▸ sub_A hq8
  refine ⟨sub_A1 u9 p5, fun S10 e10 => ?_⟩
  have u10 : cSub S9 S10 (fun z => z = p) := e10 ▸ sub_Sr rfl
  have p10 := sub_A1 u10 (sub_A1 u9 p5)
  have A10 : cA S10 q8 14 := sub_A1 u10 ⟨hm_Ao e9, hk_Ao e9⟩
  have N10 : cn S10 q8 = lnW w + 1 := (sub_cn u10 ⟨hm_Ao e9, hk_Ao e9⟩).trans (hn_Ao e9)
  have r136 : cr S10 136 p = some q8 := hr_Sr_s e10
  have npq : ¬ p = q8 := cm_nq hq8 p5.1
  unfold k_X4_ofPrefix_30L
  refine lfp_cnt (lnW w) (fun j y => ∃ S', cSub S10 S' (fun z => z = q8) ∧ (∀ i, i < j → cI S' q8 i = nI (dg w i)) ∧ y = (lN w, p, nI (lnW w), nI j, 0 + 1 + 4 + 1, 0 + 11 + 0 + (lnW w + 1), S')) ?_ ⟨S10, sub_rf, fun i hi => absurd hi (Nat.not_lt_zero i), rfl⟩
  rintro P j _ hj ⟨S', s', hwr, rfl⟩ ih
  show k_X4_ofPrefix_30 Q dp mc ms _ (lN w) p (nI (lnW w)) (nI j) (0 + 1 + 4 + 1) (0 + 11 + 0 + (lnW w + 1)) S'
  have p' := sub_A1 s' p10
  have r' : cr S' 136 p = some q8 := (sub_cr s' p10 npq).trans r136
  have A' := sub_A1 s' A10
  have N' := (sub_cn s' A10).trans N10
  unfold k_X4_ofPrefix_30
  refine pk_le (lnW w) j (fun z => ?_) (fun z => ⟨p', q8, r', ⟨by omega, by omega⟩, q_digitAt hw (by omega) ⟨cX_mk A' N' (by omega) (show j < lnW w + 1 by omega) rfl, fun S15 e15 => ?_⟩⟩)
  · obtain rfl : j = lnW w := by omega
    refine ⟨p', q8, r', cX_mk A' N' (by omega) (show lnW w < lnW w + 1 by omega) rfl, fun S12 e12 => ⟨⟨by omega, by omega⟩, ?_⟩⟩
    rw [nI_clamp (by omega)] at e12
    have s12 : cSub S10 S12 (fun z => z = q8) := sub_tr s' (e12 ▸ sub_SI rfl) (fun _ _ z => z)
    have c12 : cI S12 q8 = fun i => if i = lnW w then nI 38 else cI S' q8 i := by rw [e12]; exact mU_s
    obtain ⟨f1, n1'⟩ := ndT_pat (ρ := ρ) (k := 3) (f := f) (d := ((3, f, 0, 0), false, [], [], w)) (S' := S12) rfl rfl rfl (Or.inl rfl) hp p5 hi gw ha hb he (out2 n1) (out2 n2) (out2 n4) be hq8 s05 ⟨S9, by rw [ptl]; exact e9, e10⟩ s12 (fun i y hi => by
      rw [c12]
      rw [ptE] at hi
      show (if i = lnW w then nI 38 else cI S' q8 i) = nI y
      by_cases c : i = lnW w
      · rw [if_pos c]
        rw [List.getElem?_append_right (by rw [List.length_map, List.length_range]; omega), List.length_map, List.length_range, c, Nat.sub_self] at hi
        rw [← Option.some.inj hi]
      · rw [if_neg c]
        have hil := get_lt hi
        rw [List.length_append, List.length_map, List.length_range] at hil
        have hil : i < lnW w := by have : i < lnW w + 1 := hil; omega
        rw [List.getElem?_append_left (by rw [List.length_map, List.length_range]; exact hil), List.getElem?_map, List.getElem?_range hil] at hi
        rw [← Option.some.inj hi]
        exact hwr i hil)
    exact h S12 _ p f1 hp n1'
  · rw [nI_clamp (by omega)] at e15
    have s15 : cSub S10 S15 (fun z => z = q8) := sub_tr s' (e15 ▸ sub_SI rfl) (fun _ _ z => z)
    have c15 : cI S15 q8 = fun i => if i = j then nI (dg w j) else cI S' q8 i := by rw [e15]; exact mU_s
    rintro _ rfl
    rw [nI_add]
    refine ih _ z ⟨S15, s15, fun i hi => ?_, rfl⟩
    rw [c15]
    show (if i = j then nI (dg w j) else cI S' q8 i) = _
    by_cases c : i = j
    · rw [if_pos c, c]
    · rw [if_neg c]; exact hwr i (by omega)
/-- the pattern's element of a sign -/
def pfN (x : Nat) : Nat := if x = 63 then 37 else if x = 42 then 38 else figN x
/-- a WILD -/
theorem q_ofPattern {Q : Nat → cS → Prop} {mc ms f t n : Nat} {P : Nat → Nat} (ht : tSg S t n P) (hn : n ≤ 12) (hm : 6 ≤ mc) (hs : 24 ≤ ms) (h : ∀ T ρ' p, fr S T ρ ρ' [] → p ∉ cL S → ndT T ρ' 12 p ((4, f, 0, 0), false, [], (List.range n).map (fun k => pfN (P k)), 0) false → Q p T) : k_X4_ofPattern Q dp mc ms (nI f) t S := by
  obtain ⟨D, hD⟩ : ∃ D : Nd, D = ((4, f, 0, 0), false, [], (List.range n).map (fun k => pfN (P k)), 0) := ⟨_, rfl⟩
  rw [← hD] at h
  have ptE : ptN D = (List.range n).map (fun k => pfN (P k)) := by
    rw [hD]
    unfold ptN
    rw [if_neg (show ¬ nK ((4, f, 0, 0), false, [], (List.range n).map (fun k => pfN (P k)), 0) = 3 by show ¬ (4 = 3); decide), if_pos (show nK ((4, f, 0, 0), false, [], (List.range n).map (fun k => pfN (P k)), 0) = 4 from rfl)]
    rfl
  have ptl : (ptN D).length = n := by rw [ptE, List.length_map, List.length_range]
  unfold k_X4_ofPattern
  refine ⟨⟨by omega, by omega⟩, fun p hp S2 e2 => ⟨4, 0, by omega, by omega, q_ndInit ⟨hm_No e2, hk_No e2⟩ (Nat.le_refl _) (fun S5 g => ?_)⟩⟩
  have s2 : cSub S S2 (fun _ => False) := e2 ▸ sub_N hp
  obtain ⟨s5, p5, hi, gw, a, b, c, e, ⟨n1, n2, n3, n4⟩, ha, hb, hc, he, be, ce⟩ := g
  have s05 : cSub S S5 (fun _ => False) := sub_tr s2 s5 (fun x hx z => absurd z (cm_nq hp hx))
  have out2 : ∀ {z : Nat}, z ∉ cL S2 → z ∉ cL S := fun h z => h (s2 _ z).1.1
  have nf : ¬ False := fun z => z
  have t5 := tSg_sub s05 ht nf (fun _ _ => nf)
  refine ⟨t5.1, ⟨by omega, by omega⟩, ⟨by omega, by omega⟩, ?_⟩
  rw [t5.2.2.1, min12 hn]
  rintro _ rfl
  refine ⟨n, rfl, by omega, by omega, by omega, fun q8 hq8 S9 e9 => ?_⟩
  have u9 : cSub S5 S9 (fun _ => False) := e9 ▸ sub_A hq8
  refine ⟨sub_A1 u9 p5, fun S10 e10 => ?_⟩
  have u10 : cSub S9 S10 (fun z => z = p) := e10 ▸ sub_Sr rfl
  have p10 := sub_A1 u10 (sub_A1 u9 p5)
  have A10 : cA S10 q8 14 := sub_A1 u10 ⟨hm_Ao e9, hk_Ao e9⟩
  have N10 : cn S10 q8 = n := (sub_cn u10 ⟨hm_Ao e9, hk_Ao e9⟩).trans (hn_Ao e9)
  have r136 : cr S10 136 p = some q8 := hr_Sr_s e10
  have npq : ¬ p = q8 := cm_nq hq8 p5.1
  have nq : q8 ∉ cL S := fun z => hq8 (s05 _ z).1.1
  have s010 : cSub S S10 (fun _ => False) := sub_tr s05 (sub_tr (sub_wk u9 (fun _ _ z => z.elim)) u10 (F := fun z => z = p) (fun _ _ z => z)) (fun x hx z => absurd z (cm_nq hp hx))
  unfold k_X4_ofPattern_35L
  refine lfp_cnt n (fun j y => ∃ S', cSub S10 S' (fun z => z = q8) ∧ (∀ i, i < j → cI S' q8 i = nI (pfN (P i))) ∧ y = (t, p, nI n, nI j, 0 + 1 + 4 + 1, 0 + 11 + 0 + n, S')) ?_ ⟨S10, sub_rf, fun i hi => absurd hi (Nat.not_lt_zero i), rfl⟩
  rintro P' j _ hj ⟨S', s', hwr, rfl⟩ ih
  show k_X4_ofPattern_35 Q dp mc ms _ t p (nI n) (nI j) (0 + 1 + 4 + 1) (0 + 11 + 0 + n) S'
  have p' := sub_A1 s' p10
  have r' : cr S' 136 p = some q8 := (sub_cr s' p10 npq).trans r136
  have A' := sub_A1 s' A10
  have N' := (sub_cn s' A10).trans N10
  have s0' : cSub S S' (fun _ => False) := sub_tr s010 s' (fun x hx z => absurd z (cm_nq nq hx))
  have t' := tSg_sub s0' ht nf (fun _ _ => nf)
  obtain ⟨-, -, -, a0, -, -, -, hP⟩ := id ht
  unfold k_X4_ofPattern_35
  refine pk_le n j (fun z => ?_) (fun z => ⟨p', q8, r', t'.1, ⟨by omega, by omega⟩, q_signOf t' z ⟨⟨by omega, by omega⟩, q_patternOf (hP j z).2 ⟨cX_mk A' N' (by omega) (show j < n by omega) rfl, fun S15 e15 => ?_⟩⟩⟩)
  · obtain rfl : j = n := by omega
    obtain ⟨f1, n1'⟩ := ndT_pat (ρ := ρ) (k := 4) (f := f) (d := D) (S' := S') (by rw [hD]) (by rw [hD]) (by rw [hD]) (Or.inr rfl) hp p5 hi gw ha hb he (out2 n1) (out2 n2) (out2 n4) be hq8 s05 ⟨S9, by rw [ptl]; exact e9, e10⟩ s' (fun i y hi => by
      rw [ptE] at hi
      have hil := get_lt hi
      rw [List.length_map, List.length_range] at hil
      rw [List.getElem?_map, List.getElem?_range hil] at hi
      rw [← Option.some.inj hi]
      exact hwr i hil)
    exact ⟨⟨by omega, by omega⟩, h S' _ p f1 hp n1'⟩
  · rw [nI_clamp (by omega)] at e15
    have s15 : cSub S10 S15 (fun z => z = q8) := sub_tr s' (e15 ▸ sub_SI rfl) (fun _ _ z => z)
    have c15 : cI S15 q8 = fun i => if i = j then nI (pfN (P j)) else cI S' q8 i := by rw [e15]; exact mU_s
    rintro _ rfl
    rw [nI_add]
    refine ih _ z ⟨S15, s15, fun i hi => ?_, rfl⟩
    rw [c15]
    show (if i = j then nI (pfN (P j)) else cI S' q8 i) = _
    by_cases c : i = j
    · rw [if_pos c, c]
    · rw [if_neg c]; exact hwr i (by omega)
theorem q_isPattern {Q : Int32 → cS → Prop} {t n : Nat} {P : Nat → Nat} (ht : tSg S t n P) (h : Q (bI (decide (1 ≤ n ∧ n ≤ 12) && allB (fun k => decide (0 < pfN (P k))) n)) S) : k_X4_isPattern Q dp t S := by
  obtain ⟨t1, t2, t3, a0, -, -, -, hP⟩ := id ht
  unfold k_X4_isPattern
  rw [t3]
  refine ⟨t1, pk_lt n 1 (fun z => ?_) (fun z => ⟨t1, pk_le n 12 (fun z2 => ?_) (fun z2 => ?_)⟩)⟩
  · rw [decide_eq_false (by omega), Bool.false_and] at h; exact h
  · rw [decide_eq_true ⟨z, z2⟩, Bool.true_and] at h
    unfold k_X4_isPattern_21L
    refine lfp_cnt n (fun k y => allB (fun k => decide (0 < pfN (P k))) k = true ∧ y = (t, nI k, S)) ?_ ⟨rfl, rfl⟩
    rintro R k _ hk ⟨ha, rfl⟩ ih
    show k_X4_isPattern_21 Q dp _ t (nI k) S
    unfold k_X4_isPattern_21
    rw [t3]
    refine ⟨t1, pk_le n k (fun w => ?_) (fun w => ⟨t1, q_signOf ht w (q_patternOf (hP k w).2 ?_)⟩)⟩
    · obtain rfl : k = n := by omega
      rw [ha] at h; exact h
    · have hb : (if P k = 63 then 37 else if P k = 42 then 38 else figN (P k)) < 2 ^ 31 := by
        have := figN_lt (P k)
        split
        · omega
        · split <;> omega
      refine w_nz (if P k = 63 then 37 else if P k = 42 then 38 else figN (P k)) (fun e => ?_) (fun e => ?_) rfl hb
      · rintro _ rfl
        rw [nI_add]
        refine ih _ w ⟨allB_iff.mpr (fun i hi => ?_), rfl⟩
        rcases Nat.lt_or_ge i k with q | q
        · exact allB_iff.mp ha i q
        · obtain rfl : i = k := by omega
          exact decide_eq_true e
      · rw [allB_f w (show decide (0 < pfN (P k)) = false from decide_eq_false (by unfold pfN; omega))] at h; exact h
  · rw [decide_eq_false (by omega), Bool.false_and] at h; exact h
end LF
