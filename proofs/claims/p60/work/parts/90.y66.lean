/-! the class: places of a segment's documents are read for a leaf that tells -/
/-- the places of those tokens that f holds of -/
def tdK (f : Int64 → Bool) : List (Int64 × Nat) → Nat
  | [] => 0
  | x :: l => (if f x.1 = true then 2 ^ x.2 else 0) ||| tdK f l
theorem tdK_tb {f : Int64 → Bool} {p : Nat} : ∀ {l : List (Int64 × Nat)}, (tdK f l).testBit p = true ↔ ∃ c, f c = true ∧ (c, p) ∈ l
  | [] => by rw [tdK]; simp
  | x :: l => by
    rw [tdK, Nat.testBit_or, Bool.or_eq_true, tdK_tb]
    constructor
    · rintro (h | ⟨c, h1, h2⟩)
      · by_cases e : f x.1 = true
        · rw [if_pos e, Nat.testBit_two_pow] at h
          have e2 := of_decide_eq_true h
          exact ⟨x.1, e, by rw [← e2]; exact List.mem_cons_self⟩
        · rw [if_neg e, Nat.zero_testBit] at h; exact absurd h (by decide)
      · exact ⟨c, h1, List.mem_cons_of_mem _ h2⟩
    · rintro ⟨c, h1, h2⟩
      rcases List.mem_cons.mp h2 with h | h
      · refine Or.inl ?_
        rw [← h, if_pos h1, Nat.testBit_two_pow]; exact decide_eq_true rfl
      · exact Or.inr ⟨c, h1, h⟩
theorem tdK_lt {f : Int64 → Bool} {N : Nat} : ∀ {l : List (Int64 × Nat)}, (∀ x, x ∈ l → x.2 < N) → tdK f l < 2 ^ N
  | [], _ => Nat.two_pow_pos N
  | x :: l, h => by
    rw [tdK]
    refine Nat.or_lt_two_pow ?_ (tdK_lt (fun y hy => h y (List.mem_cons_of_mem _ hy)))
    split
    · exact Nat.pow_lt_pow_right (by decide) (h x List.mem_cons_self)
    · exact Nat.two_pow_pos N
/-- .. by the words of a segment, up to one -/
def orW (f : Int64 → Bool) (wp : List (Int64 × List (Nat × Nat))) (l : List (Int64 × Nat)) : Nat → Nat
  | 0 => 0
  | k + 1 => orW f wp l k ||| (match wp[k]? with
    | some x => if f x.1 = true then pmk x.1 l else 0
    | none => 0)
theorem orW_tb {f : Int64 → Bool} {wp : List (Int64 × List (Nat × Nat))} {l : List (Int64 × Nat)} {p : Nat} : ∀ {k : Nat}, (orW f wp l k).testBit p = true ↔ ∃ i x, i < k ∧ wp[i]? = some x ∧ f x.1 = true ∧ (x.1, p) ∈ l
  | 0 => by
    rw [orW, Nat.zero_testBit]
    exact ⟨fun h => absurd h (by decide), fun ⟨i, x, h, _⟩ => absurd h (Nat.not_lt_zero i)⟩
  | k + 1 => by
    rw [orW, Nat.testBit_or, Bool.or_eq_true, orW_tb]
    constructor
    · rintro (⟨i, x, h1, h2⟩ | h)
      · exact ⟨i, x, by omega, h2⟩
      · cases e : wp[k]? with
        | none => rw [e] at h; replace h : (0 : Nat).testBit p = true := h; rw [Nat.zero_testBit] at h; exact absurd h (by decide)
        | some x =>
          rw [e] at h
          replace h : (if f x.1 = true then pmk x.1 l else 0).testBit p = true := h
          by_cases c : f x.1 = true
          · rw [if_pos c] at h
            exact ⟨k, x, Nat.lt_succ_self k, e, c, (pmk_tb x.1 p l).mp h⟩
          · rw [if_neg c, Nat.zero_testBit] at h; exact absurd h (by decide)
    · rintro ⟨i, x, h1, h2, h3, h4⟩
      by_cases c : i = k
      · subst c
        refine Or.inr ?_
        rw [h2]
        show (if f x.1 = true then pmk x.1 l else 0).testBit p = true
        rw [if_pos h3]; exact (pmk_tb x.1 p l).mpr h4
      · exact Or.inl ⟨i, x, by omega, h2, h3, h4⟩
theorem pst_mem {TL : Nat → List (Int64 × Nat)} {c : Int64} {K j p : Nat} (hj : j < K) (h : (c, p) ∈ TL j) : pstOf TL c K ≠ [] := by
  intro e
  have := spR_pst (TL := TL) (c := c) (R := fun _ => 0) K j
  rw [e, if_pos hj, Nat.zero_or] at this
  replace this : 0 = pmk c (TL j) := this
  have t := (pmk_tb c p (TL j)).mpr h
  rw [← this, Nat.zero_testBit] at t; exact absurd t (by decide)
theorem pst_ne {TL : Nat → List (Int64 × Nat)} {c : Int64} : ∀ {K : Nat}, pstOf TL c K ≠ [] → ∃ j p, j < K ∧ (c, p) ∈ TL j
  | 0, h => absurd rfl h
  | K + 1, h => by
    rw [pstOf] at h
    by_cases e : pmk c (TL K) = 0
    · rw [if_pos e, List.append_nil] at h
      obtain ⟨j, p, h1, h2⟩ := pst_ne h
      exact ⟨j, p, by omega, h2⟩
    · obtain ⟨p, hp⟩ := Nat.exists_testBit_of_ne_zero e
      exact ⟨K, p, Nat.lt_succ_self K, (pmk_tb c p _).mp hp⟩
theorem orW_all {f : Int64 → Bool} {wp : List (Int64 × List (Nat × Nat))} {TL : Nat → List (Int64 × Nat)} {K j : Nat} (h : wOk wp (fun c => pstOf TL c K)) (hj : j < K) : orW f wp (TL j) wp.length = tdK f (TL j) := by
  refine Nat.eq_of_testBit_eq (fun p => Bool.eq_iff_iff.mpr ?_)
  rw [orW_tb, tdK_tb]
  constructor
  · rintro ⟨i, x, _, _, h3, h4⟩
    exact ⟨x.1, h3, h4⟩
  · rintro ⟨c, h1, h2⟩
    obtain ⟨i, x, hx, rfl⟩ := h.2.2 c (pst_mem hj h2)
    exact ⟨i, x, get_lt hx, hx, h1, h2⟩
theorem orW_lt {f : Int64 → Bool} {wp : List (Int64 × List (Nat × Nat))} {l : List (Int64 × Nat)} {N : Nat} (hl : ∀ x, x ∈ l → x.2 < N) : ∀ k, orW f wp l k < 2 ^ N
  | 0 => Nat.two_pow_pos N
  | k + 1 => by
    rw [orW]
    refine Nat.or_lt_two_pow (orW_lt hl k) ?_
    split
    · split
      · exact pmk_lt hl
      · exact Nat.two_pow_pos N
    · exact Nat.two_pow_pos N
theorem lN_nat {w : Nat} (h : w < 2 ^ 63) : (lN w).toInt.toNat = w := by
  rw [show (lN w).toInt = (w : Int) from lg_ofNat_toInt (by omega)]
  rfl
/-- whether a leaf tells a token -/
noncomputable def tdI (d : Nd) (c : Int64) : Bool := tdB d c.toInt.toNat
/-- the documents' tokens are words -/
def tkW (L : List Dc) : Prop := ∀ d, d ∈ L → ∀ (fl : Nat) (x : Int64 × Nat), x ∈ dT d fl → ∃ w, w < 37 ^ 12 ∧ x.1 = lN w
theorem tkW_at {L : List Dc} (h : tkW L) {fl j p : Nat} {c : Int64} (hc : (c, p) ∈ tlD L fl j) : ∃ w, w < 37 ^ 12 ∧ c = lN w := by
  unfold tlD at hc
  cases e : L[j]? with
  | none => rw [e] at hc; exact absurd hc List.not_mem_nil
  | some d => rw [e] at hc; exact h d (List.mem_of_getElem? e) fl (c, p) hc
section RT
variable {S T U : cS} {ρ : Nat → Nat} {dp p A n : Nat} {d : Nd} {fl : Bool} {ds : List Nat} {L : List Dc}
theorem q_readTold {Q : cS → Prop} {b : Nat} (g : ndT S ρ 17 p d fl) (hd : tlOk d) (hf : nF d < 2) (gS : gSg S ρ dp A n ds L) (hW : tkW L) (bA : cA S b 14) (bn : cn S b = 100) (bρ : ρ b = 22) (h : ∀ T, fF S T ρ (fun z => ρ z = 80 ∨ ρ z = 18 ∨ z = b) → (∀ j, j < L.length → cI T b j = nI (tdK (tdI d) (tlD L (nF d) j))) → Q T) : k_X7_readTold Q dp p A b S := by
  have hK : L.length ≤ 100 := gS.2.2.2.2.2.1
  have okL : ∀ d, d ∈ L → okD d := gS.2.2.2.2.1
  obtain ⟨F, hF⟩ : ∃ F : Nat → Prop, F = fun z => ρ z = 80 ∨ ρ z = 18 ∨ z = b := ⟨_, rfl⟩
  rw [← hF] at h
  have Fin : ∀ a, a ∈ cL S → F a → ρ a ∈ [80, 18, 22] := fun a _ z => by
    rw [hF] at z
    rcases z with z | z | z
    · rw [z]; decide
    · rw [z]; decide
    · rw [z, bρ]; decide
  have st : ∀ {S' : cS}, fF S S' ρ F → ndT S' ρ 17 p d fl ∧ gSg S' ρ dp A n ds L ∧ cA S' b 14 ∧ cn S' b = 100 := fun f => by
    have fk' := fF_fk f Fin
    exact ⟨ndT_fr fk'.1 (by decide) (fun _ _ e => e) g, gSg_fr fk' (by decide) gS, sub_A1 f.1 bA, (sub_cn f.1 bA).trans bn⟩
  obtain ⟨wl, wp, w1, w2, w3⟩ := gS.2.2.2.2.2.2 (nF d) hf
  have Fb : F b := by rw [hF]; exact Or.inr (Or.inr rfl)
  unfold k_X7_readTold
  refine q_fill bA bn (by decide) (fun S1 s1 h1 => ?_)
  have f1 : fF S S1 ρ F := fF_wk (fF_sub s1 (fun a _ z => by rw [z, bρ]; decide)) (fun a _ z => by rw [z]; exact Fb)
  obtain ⟨g1, gS1, b1, b1n⟩ := st f1
  refine ⟨g1.1, gS1.1.1, ?_⟩
  rw [g1.2.2.1.2.1]
  have wl1 : cr S1 (258 + nF d) A = some wl := by
    rw [sub_cr f1.1 gS.1.1 (fun z => by
      have := Fin A gS.1.1.1 z
      rw [gS.2.1] at this; exact absurd this (by decide))]
    exact w1
  refine q_wordsOf gS1.1.1 hf wl1 ?_
  unfold k_X7_readTold_17L
  refine lfp_cnt wp.length (fun k y => ∃ S', fF S S' ρ F ∧ (∀ j, j < 100 → cI S' b j = nI (orW (tdI d) wp (tlD L (nF d) j) k)) ∧ y = (p, b, wl, nI k, S')) ?_ ⟨S1, f1, fun j hj => h1 j hj, rfl⟩
  rintro P k _ hk ⟨S', f', hb, rfl⟩ ih
  show k_X7_readTold_17 Q dp _ p b wl (nI k) S'
  obtain ⟨g', gS', b', b'n⟩ := st f'
  have fk' := fF_fk f' Fin
  obtain ⟨ws, m, v1, v2, v3, v4⟩ := gWd_fr fk' (by decide) w2
  have hw8 : ws.length < 8000 := by have := v1.2.2.1; have := v1.2.2.2.1; omega
  unfold k_X7_readTold_17
  refine ⟨v1.1, q_lsize v1 (pk_le ws.length k (fun z => ?_) (fun z => ?_))⟩
  · obtain rfl : k = wp.length := by omega
    exact h S' f' (fun j hj => by rw [hb j (by omega), orW_all w3 hj])
  obtain ⟨q, hq⟩ := get_ex z
  obtain ⟨x, hx⟩ := get_ex (l := wp) (k := k) (by omega)
  obtain ⟨⟨c1, c2, c3, c4⟩, c5, c6⟩ := v4 k q x hq hx
  obtain ⟨e1, e2⟩ := w3.2.1 k x hx
  obtain ⟨jj, pp, -, hin⟩ := pst_ne e2
  obtain ⟨w, hw, hxw⟩ := tkW_at hW hin
  have fin : ∀ {S2 : cS}, fF S S2 ρ F → (∀ j, j < 100 → cI S2 b j = nI (orW (tdI d) wp (tlD L (nF d) j) (k + 1))) → k_X7_readTold_58 Q dp (fun b0 b1 b2 b3 S => P (b0, b1, b2, b3, S)) p b wl (nI k) S2 := by
    intro S2 f2 h2
    unfold k_X7_readTold_58
    rintro _ rfl
    rw [nI_add]
    exact ih _ (by omega) ⟨S2, f2, h2, rfl⟩
  refine ⟨v1.1, q_lget v1 hq ⟨c1.1, c1.1, g'.1, ?_⟩⟩
  rw [c2, hxw]
  refine q_isTold g' hd hw (by decide) (fun S2 s2 => ?_)
  have f2 : fF S S2 ρ F := fF_tr f' (fF_sub s2.1 (fun a _ z => by rw [List.mem_singleton.mp z]; decide)) (fun a _ z => by rw [hF]; exact Or.inr (Or.inl (List.mem_singleton.mp z)))
  have tw : tdI d x.1 = tdB d w := by
    unfold tdI
    rw [hxw, lN_nat (Nat.lt_trans hw (by decide))]
  have bb : ∀ j, j < 100 → cI S2 b j = nI (orW (tdI d) wp (tlD L (nF d) j) k) := fun j hj => by
    rw [sub_cI s2.1 b' (by rw [bρ]; decide)]; exact hb j hj
  refine w_b0 (tdB d w) (fun e => fin f2 (fun j hj => ?_)) (fun e => ?_)
  · rw [bb j hj, orW, hx]
    show _ = nI (_ ||| (if tdI d x.1 = true then pmk x.1 (tlD L (nF d) j) else 0))
    rw [tw, e, if_neg (by decide), Nat.or_zero]
  · obtain ⟨ws2, m2, y1, y2, y3, y4⟩ := gWd_fr (fF_fk f2 Fin) (by decide) w2
    obtain ⟨q2, hq2⟩ := get_ex (l := ws2) (k := k) (by omega)
    obtain ⟨⟨u1, u2, u3, u4⟩, u5, u6⟩ := y4 k q2 x hq2 hx
    obtain ⟨-, -, b2, b2n⟩ := st f2
    replace e1 : x.2 = pstOf (tlD L (nF d)) x.1 L.length := e1
    rw [e1] at u1 u3 u4
    refine ⟨y1.1, q_lget y1 hq2 ⟨u1.1, u1.1, q_spreadS hK u1 u3 u4 b2 b2n bb (fun S3 s3 h3 => fin (fF_tr f2 (fF_Sp s3 (by rw [bρ]; decide)) (fun a _ z => ?_)) (fun j hj => ?_))⟩⟩
    · rw [hF]
      rcases z with z | z
      · rw [z]; exact Or.inl u5
      · rw [z]; exact Or.inr (Or.inr rfl)
    · rw [h3 j hj, orW, hx]
      show nI (_ ||| mF L (nF d) x.1 j) = nI (_ ||| (if tdI d x.1 = true then pmk x.1 (tlD L (nF d) j) else 0))
      rw [tw, e, if_pos rfl]; rfl
end RT
/-- what is marked for a leaf in a document -/
noncomputable def mkA (L : List Dc) (d : Nd) (j : Nat) : Nat := if nK d ≤ 2 then cpN d (mkC L d j) else tdK (tdI d) (tlD L (nF d) j)
noncomputable def fsA (L : List Dc) (d : Nd) (j : Nat) : Nat := if nK d ≤ 2 then mkC L d j 0 else tdK (tdI d) (tlD L (nF d) j)

