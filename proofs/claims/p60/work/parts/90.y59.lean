/-! places that count for a leaf -/
/-- the first place of a mask from one on -/
def plN (m f : Nat) : Option Nat := if f + fst0 (fun k => m.testBit (f + k)) (20 - f) < 20 then some (f + fst0 (fun k => m.testBit (f + k)) (20 - f)) else none
/-- the places that hold, as bits -/
def cpF (f : Nat → Bool) : Nat → Nat
  | 0 => 0
  | k + 1 => cpF f k ||| (if f k = true then 2 ^ k else 0)
theorem cpF_tb {f : Nat → Bool} {p : Nat} : ∀ {n : Nat}, (cpF f n).testBit p = (decide (p < n) && f p)
  | 0 => by rw [cpF]; simp
  | n + 1 => by
    rw [cpF, Nat.testBit_or, cpF_tb]
    by_cases c : f n = true
    · rw [if_pos c, Nat.testBit_two_pow]
      by_cases e : n = p
      · subst e; simp [c]
      · have : decide (p < n + 1) = decide (p < n) := by
          by_cases q : p < n
          · rw [decide_eq_true q, decide_eq_true (by omega)]
          · rw [decide_eq_false q, decide_eq_false (by omega)]
        rw [this, decide_eq_false e, Bool.or_false]
    · rw [if_neg c, Nat.zero_testBit, Bool.or_false]
      by_cases e : n = p
      · subst e
        have : f n = false := Bool.eq_false_iff.mpr c
        rw [this, Bool.and_false, Bool.and_false]
      · have : decide (p < n + 1) = decide (p < n) := by
          by_cases q : p < n
          · rw [decide_eq_true q, decide_eq_true (by omega)]
          · rw [decide_eq_false q, decide_eq_false (by omega)]
        rw [this]
theorem cpF_lt {f : Nat → Bool} : ∀ {n : Nat}, cpF f n < 2 ^ n
  | 0 => by rw [cpF]; decide
  | n + 1 => by
    rw [cpF]
    have h := cpF_lt (f := f) (n := n)
    refine Nat.or_lt_two_pow (Nat.lt_of_lt_of_le h (Nat.pow_le_pow_right (by decide) (by omega))) ?_
    split
    · exact Nat.pow_lt_pow_right (by decide) (by omega)
    · exact Nat.two_pow_pos _
/-- NEAR: a place of the second token -/
def nbB (m p lim : Nat) (ord : Bool) : Bool := anyB (fun i => (decide (p + (i + 1) < 20) && m.testBit (p + (i + 1))) || ((!ord && decide (i + 1 ≤ p)) && m.testBit (p - (i + 1)))) lim
/-- PHRASE: the place of token i, when each is as near as can be -/
def phL (mk gp : Nat → Nat) (p : Nat) : Nat → Option Nat
  | 0 => some p
  | i + 1 => match phL mk gp p i with
    | none => none
    | some l => plN (mk (i + 1)) (l + gp (i + 1))
def gsN2 (gp : Nat → Nat) : Nat → Nat
  | 0 => 0
  | i + 1 => gsN2 gp i + gp (i + 1)
/-- whether a place of the first token counts -/
def cAt (d : Nd) (mk : Nat → Nat) (p : Nat) : Bool := if nK d = 2 then nbB (mk 1) p (nL d) (nO d) else match phL mk (gpT (nT d)) p ((nT d).length - 1) with
  | none => false
  | some l => decide (l ≤ p + nL d + gsN2 (gpT (nT d)) ((nT d).length - 1))
/-- the places that count -/
def cpN (d : Nd) (mk : Nat → Nat) : Nat := cpF (fun p => (mk 0).testBit p && cAt d mk p) 20
theorem plN_lt {m f p : Nat} (h : plN m f = some p) : p < 20 := by
  unfold plN at h
  split at h
  · rw [← Option.some.inj h]; assumption
  · exact absurd h (by simp)
theorem phL_lt {mk gp : Nat → Nat} {p l : Nat} (hp : p < 20) : ∀ {i : Nat}, phL mk gp p i = some l → l < 20
  | 0, h => by rw [phL] at h; rw [← Option.some.inj h]; exact hp
  | i + 1, h => by
    rw [phL] at h
    cases c : phL mk gp p i with
    | none => rw [c] at h; exact absurd h (by simp)
    | some l' => rw [c] at h; exact plN_lt h
theorem phL_none {mk gp : Nat → Nat} {p i : Nat} (h : phL mk gp p i = none) : ∀ d : Nat, phL mk gp p (i + d) = none
  | 0 => h
  | d + 1 => by rw [← Nat.add_assoc, phL, phL_none h d]
theorem neg_sub {p i : Nat} (hp : p < 64) (hi : i < 64) (h : p < i) : nI p - nI i < 0 := by
  have : ∀ a b : Fin 64, a.val < b.val → nI a.val - nI b.val < 0 := by decide +kernel
  exact this ⟨p, hp⟩ ⟨i, hi⟩ h
section CPL
variable {S T U : cS} {ρ ρ' : Nat → Nat} {dp p : Nat} {d : Nd} {b : Bool} {κ : Nat}
theorem q_placeFrom {Q : Int32 → cS → Prop} {m f : Nat} (hm : m < 2 ^ 31) (hf : f < 2 ^ 20) (h : Q (cIn (plN m f)) S) : k_X4_placeFrom Q dp (nI m) (nI f) S := by
  unfold k_X4_placeFrom
  rw [if_neg (show ¬ nI f < nI 0 from nI_pos (by omega))]
  rintro _ rfl
  unfold k_X4_placeFrom_6L
  refine lfp_cnt (20 - f) (fun k y => (∀ j, j < k → m.testBit (f + j) = false) ∧ y = (nI m, nI (f + k), S)) ?_ ⟨fun j hj => absurd hj (Nat.not_lt_zero j), rfl⟩
  rintro P k _ hk ⟨hno, rfl⟩ ih
  show k_X4_placeFrom_6 Q dp _ (nI m) (nI (f + k)) S
  unfold k_X4_placeFrom_6
  refine pk_le 20 (f + k) (fun z => ?_) (fun z => ?_)
  · have e : fst0 (fun k => m.testBit (f + k)) (20 - f) = 20 - f := fst0_all (fun j hj => hno j (by omega))
    have : plN m f = none := by unfold plN; rw [e, if_neg (by omega)]
    rw [this] at h; exact h
  · rw [nI_bit hm (by omega)]
    refine w_b0 (m.testBit (f + k)) (fun e => ?_) (fun e => ?_)
    · rintro _ rfl
      rw [nI_add]
      refine ih _ (by omega) ⟨fun j hj => ?_, rfl⟩
      rcases Nat.lt_or_ge j k with q | q
      · exact hno j q
      · obtain rfl : j = k := by omega
        exact e
    · have e2 : fst0 (fun k => m.testBit (f + k)) (20 - f) = k := fst0_eq hno e (by omega)
      have : plN m f = some (f + k) := by unfold plN; rw [e2, if_pos z]
      rw [this] at h; exact h
theorem q_hasNeighbour {Q : Int32 → cS → Prop} {m q lim : Nat} {ord : Bool} (pA : cA S p 4) (h130 : ci S 130 p = nI lim) (h131 : ci S 131 p = bI ord) (hm : m < 2 ^ 31) (hq : q < 20) (hl : lim ≤ 20) (h : Q (bI (nbB m q lim ord)) S) : k_X4_hasNeighbour Q dp p (nI m) (nI q) S := by
  unfold k_X4_hasNeighbour k_X4_hasNeighbour_2L
  obtain ⟨F, hF⟩ : ∃ F : Nat → Bool, F = fun i => (decide (q + (i + 1) < 20) && m.testBit (q + (i + 1))) || ((!ord && decide (i + 1 ≤ q)) && m.testBit (q - (i + 1))) := ⟨_, rfl⟩
  have hN : nbB m q lim ord = anyB F lim := by unfold nbB; rw [hF]
  rw [hN] at h
  refine lfp_cnt lim (fun k y => anyB F k = false ∧ y = (p, nI m, nI q, nI (k + 1), S)) ?_ ⟨rfl, rfl⟩
  rintro P k _ hk ⟨hno, rfl⟩ ih
  show k_X4_hasNeighbour_2 Q dp _ p (nI m) (nI q) (nI (k + 1)) S
  unfold k_X4_hasNeighbour_2
  rw [h130]
  refine ⟨pA, pk_lt lim (k + 1) (fun z => ?_) (fun z => ?_)⟩
  · obtain rfl : k = lim := by omega
    rw [hno] at h; exact h
  have yes : F k = true → Q (bI true) S := fun e => by
    rw [anyB_of e (show k < lim by omega)] at h; exact h
  have no : F k = false → k_X4_hasNeighbour_55 Q dp (fun b0 b1 b2 b3 S => P (b0, b1, b2, b3, S)) p (nI m) (nI q) (nI (k + 1)) S := by
    intro e
    unfold k_X4_hasNeighbour_55
    rintro _ rfl
    rw [nI_add]
    exact ih _ (by omega) ⟨anyB_s0 hno e, rfl⟩
  have second : (decide (q + (k + 1) < 20) && m.testBit (q + (k + 1))) = false → k_X4_hasNeighbour_30 Q dp (fun b0 b1 b2 b3 S => P (b0, b1, b2, b3, S)) p (nI m) (nI q) (nI (k + 1)) S := by
    intro e
    have eF : F k = ((!ord && decide (k + 1 ≤ q)) && m.testBit (q - (k + 1))) := by rw [hF]; show (_ || _) = _; rw [e, Bool.false_or]
    unfold k_X4_hasNeighbour_30
    rw [h131]
    refine ⟨pA, w_bn ord (fun eo => no (by rw [eF, eo]; rfl)) (fun eo => ?_)⟩
    by_cases c : k + 1 ≤ q
    · rw [pk_sub c]
      refine w_pos (q - (k + 1)) ?_
      rw [nI_bit hm (by omega)]
      exact w_b0 (m.testBit (q - (k + 1))) (fun e2 => no (by rw [eF, e2, Bool.and_false])) (fun e2 => yes (by rw [eF, e2, eo, decide_eq_true c]; rfl))
    · exact ⟨fun _ => no (by rw [eF, decide_eq_false c, Bool.and_false, Bool.false_and]), fun c2 => absurd (neg_sub (by omega) (by omega) (by omega)) c2⟩
  rw [nI_add]
  refine pk_le 20 (q + (k + 1)) (fun c => second (by rw [decide_eq_false (by omega), Bool.false_and])) (fun c => ?_)
  rw [nI_bit hm (by omega)]
  exact w_b0 (m.testBit (q + (k + 1))) (fun e => second (by rw [e, Bool.and_false])) (fun e => yes (by rw [hF]; show (_ || _) = true; rw [e, decide_eq_true c]; rfl))
/-- a leaf of tokens is well made -/
def tkOk (d : Nd) : Prop := nK d ≤ 2 ∧ 1 ≤ (nT d).length ∧ (nT d).length ≤ 6 ∧ nL d ≤ 20 ∧ (nK d = 2 → (nT d).length = 2) ∧ ∀ i, gpT (nT d) i ≤ 20
theorem ck_0 {k : Nat} (h : k ≤ 2) : (k = 2 → ckN k = 1) ∧ (k ≠ 2 → ckN k = 0) := by
  unfold ckN
  constructor
  · rintro rfl; rfl
  · intro hne; rw [if_pos (by omega)]
theorem gsN2_le {gp : Nat → Nat} (h : ∀ i, gp i ≤ 20) : ∀ n : Nat, gsN2 gp n ≤ 20 * n
  | 0 => Nat.le_refl _
  | n + 1 => by
    have := gsN2_le h n
    have := h (n + 1)
    rw [gsN2]; omega
theorem q_isCountedAt {Q : Int32 → cS → Prop} {r q : Nat} {mk : Nat → Nat} (g : ndT S ρ κ p d b) (hd : tkOk d) (rA : cA S r 14) (rn : cn S r = 6) (hr : ∀ t, t < (nT d).length → cI S r t = nI (mk t) ∧ mk t < 2 ^ 31) (hq : q < 20) (h : Q (bI (cAt d mk q)) S) : k_X4_isCountedAt Q dp p r (nI q) S := by
  obtain ⟨g1, g2, ⟨i1, i2, i3, i4, i5, i6⟩, gw, ⟨a, a1, a2, a3, a4, a5⟩, ⟨c, c1, c2, c3, c4, c5⟩, -⟩ := g
  obtain ⟨k1, k2, k3, k4, k5, k6⟩ := hd
  unfold k_X4_isCountedAt
  rw [i1, i3]
  by_cases e : nK d = 2
  · have ck := (ck_0 k1).1 e
    have h1 := hr 1 (by rw [k5 e]; decide)
    refine ⟨g1, fun c => absurd (by rw [ck]) c, fun _ => ⟨rA, ?_⟩⟩
    rw [rn]
    refine pk_le 6 1 (fun z => absurd z (by decide)) (fun _ => ⟨cX_mk rA rn (by decide) (show 1 < 6 by decide) rfl, g1, ?_⟩)
    rw [show (nI 1).toNatClampNeg = 1 from nI_clamp (by decide), h1.1]
    refine q_hasNeighbour g1 i3 i4 h1.2 hq k4 ?_
    have ev : cAt d mk q = nbB (mk 1) q (nL d) (nO d) := by unfold cAt; rw [if_pos e]
    rw [ev] at h
    exact w_b0 (nbB (mk 1) q (nL d) (nO d)) (fun e2 => by rw [e2] at h; exact h) (fun e2 => by rw [e2] at h; exact h)
  · have ck := (ck_0 k1).2 e
    have ev : cAt d mk q = (match phL mk (gpT (nT d)) q ((nT d).length - 1) with | none => false | some l => decide (l ≤ q + nL d + gsN2 (gpT (nT d)) ((nT d).length - 1))) := by unfold cAt; rw [if_neg e]
    rw [ev] at h
    refine ⟨g1, fun _ => ⟨g1, ?_⟩, fun c => absurd (show ¬ nI (ckN (nK d)) = nI 1 by rw [ck]; decide) (fun w => w c)⟩
    rintro _ rfl
    rw [nI_add]
    unfold k_X4_isCountedAt_44L
    refine lfp_cnt ((nT d).length - 1) (fun i y => ∃ l, phL mk (gpT (nT d)) q i = some l ∧ y = (p, r, nI l, nI (q + nL d + gsN2 (gpT (nT d)) i), nI (i + 1), S)) ?_ ⟨q, rfl, rfl⟩
    rintro P i _ hi ⟨l, hl, rfl⟩ ih
    show k_X4_isCountedAt_44 Q dp _ p r (nI l) (nI (q + nL d + gsN2 (gpT (nT d)) i)) (nI (i + 1)) S
    have hl20 := phL_lt hq hl
    have hgs := gsN2_le k6 i
    unfold k_X4_isCountedAt_44
    rw [rn]
    refine ⟨g1, a, a1, a2, ?_⟩
    rw [a3]
    refine pk_le (nT d).length (i + 1) (fun z => ?_) (fun z => ?_)
    · have ei : (nT d).length - 1 = i := by omega
      rw [ei, hl] at h
      replace h : Q (bI (decide (l ≤ q + nL d + gsN2 (gpT (nT d)) i))) S := h
      unfold k_X4_isCountedAt_113
      refine pk_lt (q + nL d + gsN2 (gpT (nT d)) i) l (fun w => ?_) (fun w => ?_)
      · rw [show decide (l ≤ q + nL d + gsN2 (gpT (nT d)) i) = false from decide_eq_false (by omega)] at h; exact h
      · rw [show decide (l ≤ q + nL d + gsN2 (gpT (nT d)) i) = true from decide_eq_true w] at h; exact h
    · have hi1 := hr (i + 1) z
      have hg := k6 (i + 1)
      refine ⟨g1, c, c1, c2, ?_⟩
      rw [c3]
      refine pk_le (nT d).length (i + 1) (fun w => absurd w (by omega)) (fun _ => ⟨rA, ?_⟩)
      refine pk_le 6 (i + 1) (fun w => absurd w (by omega)) (fun _ => ⟨cX_mk rA rn (by decide) (show i + 1 < 6 by omega) rfl, g1, c, c1, cX_mk c2 c3 (by omega) z rfl, ?_⟩)
      rw [nI_clamp (show i + 1 < 2 ^ 31 by omega), hi1.1, c5 (i + 1) z, show nI l + nI (gpT (nT d) (i + 1)) = nI (l + gpT (nT d) (i + 1)) from by rw [nI_add]]
      refine q_placeFrom hi1.2 (by omega) ?_
      have e1 : phL mk (gpT (nT d)) q (i + 1) = plN (mk (i + 1)) (l + gpT (nT d) (i + 1)) := by rw [phL, hl]
      cases hp : plN (mk (i + 1)) (l + gpT (nT d) (i + 1)) with
      | none =>
        refine ⟨fun c => absurd rfl c, fun _ => ?_⟩
        have e2 := phL_none (e1.trans hp) ((nT d).length - 1 - (i + 1))
        rw [show i + 1 + ((nT d).length - 1 - (i + 1)) = (nT d).length - 1 by omega] at e2
        rw [e2] at h; exact h
      | some l' =>
        have hl' := plN_lt hp
        refine ⟨fun _ => ⟨g1, c, c1, cX_mk c2 c3 (by omega) z rfl, ?_⟩, fun c => ?_⟩
        · rw [c5 (i + 1) z]
          rintro _ rfl _ rfl
          rw [nI_add, nI_add]
          exact ih _ (by omega) ⟨l', e1.trans hp, by rw [gsN2, Nat.add_assoc]; rfl⟩
        · have := nI_pos (n := l') (by omega)
          rw [show nI l' = (-1 : Int32) from c] at this
          exact absurd (by decide) this
theorem q_countedPlaces {Q : Int32 → cS → Prop} {r : Nat} {mk : Nat → Nat} (g : ndT S ρ κ p d b) (hd : tkOk d) (rA : cA S r 14) (rn : cn S r = 6) (hr : ∀ t, t < (nT d).length → cI S r t = nI (mk t) ∧ mk t < 2 ^ 31) (h : Q (nI (cpN d mk)) S) : k_X4_countedPlaces Q dp p r S := by
  obtain ⟨g1, g2, gi, gw, ⟨a, a1, a2, a3, a4, a5⟩, -⟩ := id g
  obtain ⟨k1, k2, k3, k4, k5, k6⟩ := id hd
  have h0 := hr 0 (by omega)
  unfold k_X4_countedPlaces
  refine ⟨rA, g1, a, a1, a2, ?_⟩
  rw [rn, a3]
  refine pk_lt 6 (nT d).length (fun z => absurd z (by omega)) (fun _ => ⟨g1, a, a1, a2, ?_⟩)
  rw [a3]
  refine w_z (nT d).length (fun z => absurd z (by omega)) (fun _ => ⟨rA, fun _ => ?_, fun c => absurd c (by decide)⟩)
  unfold k_X4_countedPlaces_29L
  obtain ⟨F, hF⟩ : ∃ F : Nat → Bool, F = fun p => (mk 0).testBit p && cAt d mk p := ⟨_, rfl⟩
  have hN : cpN d mk = cpF F 20 := by unfold cpN; rw [hF]
  rw [hN] at h
  refine lfp_cnt 20 (fun k y => y = (p, r, nI (cpF F k), nI k, S)) ?_ rfl
  rintro P k _ hk rfl ih
  show k_X4_countedPlaces_29 Q dp _ p r (nI (cpF F k)) (nI k) S
  unfold k_X4_countedPlaces_29
  refine pk_le 20 k (fun z => ?_) (fun z => ⟨cX_mk rA rn (by decide) (show 0 < 6 by decide) rfl, ?_⟩)
  · obtain rfl : k = 20 := by omega
    exact h
  · rw [show (nI 0).toNatClampNeg = 0 from nI_clamp (by decide), h0.1, nI_bit h0.2 (by omega)]
    have go : ∀ v, v = cpF F (k + 1) → k_X4_countedPlaces_60 Q dp (fun b0 b1 b2 b3 S => P (b0, b1, b2, b3, S)) p r (nI v) (nI k) S := by
      intro v hv
      unfold k_X4_countedPlaces_60
      rintro _ rfl
      rw [nI_add, hv]
      exact ih _ z rfl
    have same : F k = false → cpF F k = cpF F (k + 1) := fun e => by rw [cpF, e, if_neg (by decide), Nat.or_zero]
    refine w_b0 ((mk 0).testBit k) (fun e => go _ (same (by rw [hF]; show ((mk 0).testBit k && _) = false; rw [e, Bool.false_and]))) (fun e => ⟨g1, q_isCountedAt g hd rA rn hr z (w_b0 (cAt d mk k) (fun e2 => go _ (same (by rw [hF]; show (_ && cAt d mk k) = false; rw [e2, Bool.and_false]))) (fun e2 => ?_))⟩)
    rintro _ rfl
    rw [nI_shl1 (by omega), nI_or]
    refine go _ ?_
    rw [cpF, if_pos (show F k = true by rw [hF]; show (_ && _) = true; rw [e, e2]; rfl)]
end CPL
