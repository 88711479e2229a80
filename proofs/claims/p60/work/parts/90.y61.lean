/-! the class: what a pattern and a word that is edited tell of a token -/
theorem gq_get {l : List Nat} {k : Nat} (h : k < l.length) : l[k]? = some (l.getD k 0) := by
  rw [List.getD_eq_getElem?_getD, List.getElem?_eq_getElem h]; rfl
theorem nI_mn {a b : Nat} (ha : a < 2 ^ 31) (hb : b < 2 ^ 31) : (if nI a < nI b then nI a else nI b) = nI (min a b) := by
  by_cases c : a < b
  · rw [if_pos ((nI_ltI ha hb).mpr c), Nat.min_eq_left (by omega)]
  · rw [if_neg (fun z => c ((nI_ltI ha hb).mp z)), Nat.min_eq_right (by omega)]
theorem abs13 {a b : Nat} (ha : a < 14) (hb : b < 14) : (if 0 ≤ nI a - nI b then nI a - nI b else 0 - (nI a - nI b)) = nI ((a - b) + (b - a)) := by
  have : ∀ a b : Fin 14, (if 0 ≤ nI a.val - nI b.val then nI a.val - nI b.val else 0 - (nI a.val - nI b.val)) = nI ((a.val - b.val) + (b.val - a.val)) := by decide +kernel
  exact this ⟨a, ha⟩ ⟨b, hb⟩
/-- a pattern's element -/
noncomputable def ptA (d : Nd) (k : Nat) : Nat := (ptN d).getD k 0
def ptOk (d : Nd) : Prop := (ptN d).length ≤ 13 ∧ ∀ k, k < (ptN d).length → ptA d k < 39
/-- whether a token is told by a leaf -/
noncomputable def tdB (d : Nd) (w : Nat) : Bool := if nK d = 5 then decide (edR (dg w) (dg (nW d)) (lnW w) (lnW (nW d)) ≤ nL d) else mtR (ptA d) (dg w) (ptN d).length (lnW w)
section TLD
variable {S T U : cS} {ρ ρ' : Nat → Nat} {dp p : Nat} {d : Nd} {b : Bool} {κ : Nat}
theorem q_withEmpty {Q : Int32 → cS → Prop} {x : Nat} (g : ndT S ρ κ p d b) (hd : ptOk d) (hx : x < 2 ^ ((ptN d).length + 1)) (h : Q (nI (weS (ptA d) x (ptN d).length)) S) : k_X4_withEmpty Q dp p (nI x) S := by
  obtain ⟨g1, g2, -, -, -, -, ⟨q, q1, q2, q3, q4, q5⟩, -⟩ := id g
  obtain ⟨hL, hv⟩ := hd
  have big : 2 ^ ((ptN d).length + 1) ≤ 2 ^ 14 := Nat.pow_le_pow_right (by decide) (by omega)
  unfold k_X4_withEmpty k_X4_withEmpty_4L
  refine lfp_cnt (ptN d).length (fun k y => y = (p, nI (weS (ptA d) x k), nI k, S)) ?_ rfl
  rintro P k _ hk rfl ih
  show k_X4_withEmpty_4 Q dp _ p (nI (weS (ptA d) x k)) (nI k) S
  unfold k_X4_withEmpty_4
  refine ⟨g1, q, q1, q2, ?_⟩
  rw [q3]
  refine pk_le (ptN d).length k (fun z => ?_) (fun z => ⟨g1, q, q1, cX_mk q2 q3 (by omega) z rfl, ?_⟩)
  · obtain rfl : k = (ptN d).length := by omega
    exact h
  · have hw := weS_lt (pt := ptA d) hx (j := k) (by omega)
    have hp := hv k z
    rw [nI_clamp (show k < 2 ^ 31 by omega), q5 k (ptA d k) (gq_get z), nI_bit (by omega) (by omega)]
    have go : ∀ v, v = weS (ptA d) x (k + 1) → k_X4_withEmpty_38 Q dp (fun b0 b1 b2 S => P (b0, b1, b2, S)) p (nI v) (nI k) S := by
      intro v hv
      unfold k_X4_withEmpty_38
      rintro _ rfl
      rw [nI_add, hv]
      exact ih _ z rfl
    refine w_ne (ptA d k) 38 (fun e => go _ (by rw [weS, if_neg (fun c => e c.1)])) (fun e => w_b0 ((weS (ptA d) x k).testBit k) (fun c => go _ (by rw [weS, if_neg (fun w => by rw [c] at w; exact absurd w.2 (by decide))])) (fun c => ?_))
    rintro _ rfl
    have p1 : 2 ^ (k + 1) ≤ 2 ^ 13 := Nat.pow_le_pow_right (by decide) (by omega)
    rw [nI_shl (by omega) (show 2 * 2 ^ k < 2 ^ 32 by rw [Nat.pow_succ] at p1; omega), nI_or]
    refine go _ ?_
    rw [weS, if_pos ⟨e, c⟩, Nat.pow_succ, Nat.mul_comm 2]
theorem q_isLike {Q : Int32 → cS → Prop} {w : Nat} (g : ndT S ρ κ p d b) (hd : ptOk d) (hw : w < 2 ^ 63) (h : Q (bI (mtR (ptA d) (dg w) (ptN d).length (lnW w))) S) : k_X4_isLikePattern Q dp p (lN w) (nI (lnW w)) S := by
  obtain ⟨g1, g2, -, -, -, -, ⟨q, q1, q2, q3, q4, q5⟩, -⟩ := id g
  obtain ⟨hL, hv⟩ := id hd
  have big : 2 ^ ((ptN d).length + 1) ≤ 2 ^ 14 := Nat.pow_le_pow_right (by decide) (by omega)
  have one : 1 < 2 ^ ((ptN d).length + 1) := by have := Nat.pow_le_pow_right (show 0 < 2 by decide) (show 1 ≤ (ptN d).length + 1 by omega); omega
  have l12 := lnW_le w
  unfold k_X4_isLikePattern
  refine ⟨g1, q_withEmpty g hd one ?_⟩
  unfold k_X4_isLikePattern_10L
  refine lfp_cnt (lnW w) (fun i y => y = (p, lN w, nI (lnW w), nI (lkS (ptA d) (ptN d).length (dg w) i), nI i, S)) ?_ rfl
  rintro P i _ hi rfl ih
  show k_X4_isLikePattern_10 Q dp _ p (lN w) (nI (lnW w)) (nI (lkS (ptA d) (ptN d).length (dg w) i)) (nI i) S
  obtain ⟨R, hR⟩ : ∃ R, R = lkS (ptA d) (ptN d).length (dg w) i := ⟨_, rfl⟩
  have hR1 : R < 2 ^ ((ptN d).length + 1) := by rw [hR]; exact lkS_lt i
  rw [← hR]
  unfold k_X4_isLikePattern_10
  refine pk_le (lnW w) i (fun z => ⟨g1, q, q1, q2, ?_⟩) (fun z => q_digitAt hw (by omega) ?_)
  · obtain rfl : i = lnW w := by omega
    rw [q3, nI_bit (by omega) (by omega)]
    have e : R.testBit (ptN d).length = mtR (ptA d) (dg w) (ptN d).length (lnW w) := by rw [hR]; exact lkS_all
    refine w_b0 (R.testBit (ptN d).length) (fun c => ?_) (fun c => ?_)
    · rw [← e, c] at h; exact h
    · rw [← e, c] at h; exact h
  · have hc := dg_lt w i
    unfold k_X4_isLikePattern_30L
    refine lfp_cnt (ptN d).length (fun j y => y = (p, lN w, nI (lnW w), nI R, nI i, nI (dg w i), nI (nxS (ptA d) R (dg w i) j), nI j, S)) ?_ rfl
    rintro P2 j _ hj rfl ih2
    show k_X4_isLikePattern_30 Q dp _ _ p (lN w) (nI (lnW w)) (nI R) (nI i) (nI (dg w i)) (nI (nxS (ptA d) R (dg w i) j)) (nI j) S
    unfold k_X4_isLikePattern_30
    refine ⟨g1, q, q1, q2, ?_⟩
    rw [q3]
    refine pk_le (ptN d).length j (fun z2 => ?_) (fun z2 => ?_)
    · obtain rfl : j = (ptN d).length := by omega
      refine ⟨g1, q_withEmpty g hd (nxS_lt (by omega)) ?_⟩
      rintro _ rfl
      rw [nI_add]
      refine ih _ z ?_
      rw [lkS, hR]
    · have hp := hv j z2
      have ej : cI S q (nI j).toNatClampNeg = nI (ptA d j) := by rw [nI_clamp (show j < 2 ^ 31 by omega)]; exact q5 j (ptA d j) (gq_get z2)
      have go : ∀ v, v = nxS (ptA d) R (dg w i) (j + 1) → ∀ R10 : Nat → Int64 → Int32 → Int32 → Int32 → cS → Prop, k_X4_isLikePattern_107 Q dp R10 (fun b0 b1 b2 b3 b4 b5 b6 b7 S => P2 (b0, b1, b2, b3, b4, b5, b6, b7, S)) p (lN w) (nI (lnW w)) (nI R) (nI i) (nI (dg w i)) (nI v) (nI j) S := by
        intro v hv R10
        unfold k_X4_isLikePattern_107
        rintro _ rfl
        rw [nI_add, hv]
        exact ih2 _ z2 rfl
      have p1 : 2 ^ (j + 1) ≤ 2 ^ 13 := Nat.pow_le_pow_right (by decide) (by omega)
      have p2 : 2 ^ (j + 1) = 2 * 2 ^ j := by rw [Nat.pow_succ, Nat.mul_comm]
      have more : R.testBit j = true → ptA d j ≠ 38 → (ptA d j = 37 ∨ ptA d j = dg w i) → ∀ R10 : Nat → Int64 → Int32 → Int32 → Int32 → cS → Prop, k_X4_isLikePattern_98 Q dp R10 (fun b0 b1 b2 b3 b4 b5 b6 b7 S => P2 (b0, b1, b2, b3, b4, b5, b6, b7, S)) p (lN w) (nI (lnW w)) (nI R) (nI i) (nI (dg w i)) (nI (nxS (ptA d) R (dg w i) j)) (nI j) S := by
        intro hr h38 hcc R10
        unfold k_X4_isLikePattern_98
        rintro _ rfl
        rw [nI_shl (by omega) (show 2 * 2 ^ j < 2 ^ 32 by omega), nI_or]
        refine go _ ?_ _
        rw [nxS, if_pos hr, if_neg h38, if_pos hcc, p2]
      have hnx : (R >>> 0) = R := rfl
      rw [nI_bit (show R < 2 ^ 31 by omega) (by omega)]
      refine w_b0 (R.testBit j) (fun c => go _ (by rw [nxS, if_neg (by rw [c]; decide)]) _) (fun c => ⟨g1, q, q1, cX_mk q2 q3 (by omega) z2 rfl, ?_⟩)
      rw [ej]
      refine w_ne (ptA d j) 38 (fun e => ⟨g1, q, q1, cX_mk q2 q3 (by omega) z2 rfl, ?_⟩) (fun e => ?_)
      · rw [ej]
        refine And.symm (w_ne (ptA d j) 37 (fun e2 => ⟨g1, q, q1, cX_mk q2 q3 (by omega) z2 rfl, ?_⟩) (fun e2 => more c e (Or.inl e2) _))
        rw [ej]
        exact w_ne (ptA d j) (dg w i) (fun e3 => go _ (by rw [nxS, if_pos c, if_neg e, if_neg (fun w => w.elim e2 e3)]) _) (fun e3 => more c e (Or.inr e3) _)
      · rintro _ rfl
        rw [nI_shl1 (by omega), nI_or]
        refine go _ ?_ _
        rw [nxS, if_pos c, if_pos e]
/-- rows of scratch are written -/
theorem q_isEdited {Q : Int32 → cS → Prop} {w : Nat} (g : ndT S ρ κ p d b) (hk : nK d = 5) (hw : w < 2 ^ 63) (hw2 : nW d < 2 ^ 63) (hl : nL d ≤ 20) (hκ : κ ≠ 18) (h : ∀ T, fr S T ρ ρ [18] → Q (bI (decide (edR (dg w) (dg (nW d)) (lnW w) (lnW (nW d)) ≤ nL d))) T) : k_X4_isEdited Q dp p (lN w) (nI (lnW w)) S := by
  obtain ⟨g1, g2, ⟨i1, i2, i3, i4, i5, i6⟩, gw, -, -, -, ⟨e, e1, e2, e3, e4⟩⟩ := id g
  rw [if_pos hk] at gw e3
  have l1 := lnW_le w
  have l2 := lnW_le (nW d)
  obtain ⟨N, hN⟩ : ∃ N, N = lnW (nW d) := ⟨_, rfl⟩
  obtain ⟨L, hL⟩ : ∃ L, L = lnW w := ⟨_, rfl⟩
  rw [← hN] at h e3 l2
  rw [← hL] at h l1 ⊢
  have pe : p ≠ e := fun z => hκ (by rw [← g2, z, e4])
  -- what stays
  have kp : ∀ {S' : cS}, cSub S S' (fun z => z = e) → cA S' p 4 ∧ cr S' 138 p = some e ∧ cA S' e 14 ∧ cn S' e = N + 1 ∧ ci S' 130 p = nI (nL d) ∧ cw S' 137 p = lN (nW d) := fun s => ⟨sub_A1 s g1, (sub_cr s g1 pe).trans e1, sub_A1 s e2, (sub_cn s e2).trans e3, (sub_ci s g1 pe).trans i3, (sub_cw s g1 pe).trans gw⟩
  have fin : ∀ {S' : cS}, cSub S S' (fun z => z = e) → fr S S' ρ ρ [18] := fun s => ⟨sub_wk s (fun a _ z => by rw [z, e4]; exact List.mem_singleton.mpr rfl), fun _ _ _ => rfl⟩
  unfold k_X4_isEdited
  refine ⟨g1, e, e1, e2, ?_⟩
  rw [e3, pk_sub (by omega)]
  rintro _ rfl
  rw [show N + 1 - 1 = N by omega]
  refine w_pos N ⟨g1, ?_⟩
  rw [abs13 (by omega) (by omega), i3]
  have ge := edR_ge (a := dg w) (b := dg (nW d)) L N
  refine pk_le (L - N + (N - L)) (nL d) (fun z => ?_) (fun z => ?_)
  rotate_left
  · have := h S fr_rf
    rw [decide_eq_false (by omega)] at this; exact this
  unfold k_X4_isEdited_33L
  refine lfp_cnt (N + 1) (fun j y => ∃ S', cSub S S' (fun z => z = e) ∧ (∀ k, k < j → cI S' e k = nI k) ∧ y = (p, lN w, nI L, nI N, nI j, S')) ?_ ⟨S, sub_rf, fun k hk => absurd hk (Nat.not_lt_zero k), rfl⟩
  rintro P j _ hj ⟨S', s', hr, rfl⟩ ih
  show k_X4_isEdited_33 Q dp _ p (lN w) (nI L) (nI N) (nI j) S'
  obtain ⟨p1, p2, p3, p4, p5, p6⟩ := kp s'
  unfold k_X4_isEdited_33
  refine pk_lt N j (fun z2 => ?_) (fun z2 => ⟨p1, e, p2, cX_mk p3 p4 (by omega) (show j < N + 1 by omega) rfl, ?_⟩)
  rotate_left
  · rintro S2 e2' _ rfl
    rw [nI_clamp (show j < 2 ^ 31 by omega)] at e2'
    rw [nI_add]
    refine ih _ (by omega) ⟨S2, sub_tr s' (e2' ▸ sub_SI rfl) (fun _ _ z => z), fun k hk => ?_, rfl⟩
    by_cases q : k = j
    · subst q; exact heI_SI_s e2'
    · exact heI_SI_k e2' q (hr k (by omega))
  unfold k_X4_isEdited_58L
  refine lfp_cnt L (fun i y => ∃ S', cSub S S' (fun z => z = e) ∧ (∀ k, k ≤ N → cI S' e k = nI (edR (dg w) (dg (nW d)) i k)) ∧ y = (p, lN w, nI L, nI N, nI (i + 1), S')) ?_ ⟨S', s', fun k hk => by rw [hr k (by omega), edR], rfl⟩
  clear ih p1 p2 p3 p4 p5 p6 hr z2 hj
  rintro P i _ hi ⟨S2, s2, hr, rfl⟩ ih
  show k_X4_isEdited_58 Q dp _ p (lN w) (nI L) (nI N) (nI (i + 1)) S2
  obtain ⟨p1, p2, p3, p4, p5, p6⟩ := kp s2
  unfold k_X4_isEdited_58
  refine pk_lt L (i + 1) (fun z2 => ⟨p1, e, p2, cX_mk p3 p4 (by omega) (show N < N + 1 by omega) rfl, p1, ?_⟩) (fun z2 => ⟨p1, e, p2, cX_mk p3 p4 (by omega) (show 0 < N + 1 by omega) rfl, ?_⟩)
  · obtain rfl : i = L := by omega
    rw [nI_clamp (show N < 2 ^ 31 by omega), p5, hr N (Nat.le_refl N)]
    refine pk_lt (nL d) (edR (dg w) (dg (nW d)) i N) (fun z3 => ?_) (fun z3 => ?_)
    · have := h S2 (fin s2)
      rw [decide_eq_false (by omega)] at this; exact this
    · have := h S2 (fin s2)
      rw [decide_eq_true z3] at this; exact this
  rw [show (nI 0).toNatClampNeg = 0 from nI_clamp (by decide), hr 0 (Nat.zero_le N), edR_0]
  rintro _ rfl
  refine ⟨p1, e, p2, cX_mk p3 p4 (by omega) (show 0 < N + 1 by omega) rfl, fun S7 e7 => ?_⟩
  have s7 : cSub S S7 (fun z => z = e) := sub_tr s2 (e7 ▸ sub_SI rfl) (fun _ _ z => z)
  unfold k_X4_isEdited_83L
  refine lfp_cnt N (fun j y => ∃ S', cSub S S' (fun z => z = e) ∧ (∀ k, k ≤ j → cI S' e k = nI (edR (dg w) (dg (nW d)) (i + 1) k)) ∧ (∀ k, j < k → k ≤ N → cI S' e k = nI (edR (dg w) (dg (nW d)) i k)) ∧ y = (p, lN w, nI L, nI N, nI (i + 1), nI (edR (dg w) (dg (nW d)) i j), nI (j + 1), S')) ?_ ⟨S7, s7, fun k hk => ?_, fun k hk hk2 => heI_SI_k e7 (by omega) (hr k hk2), by rw [edR_0]⟩
  rotate_left
  · obtain rfl : k = 0 := by omega
    rw [edR_0]; exact heI_SI_s e7
  clear p1 p2 p3 p4 p5 p6
  rintro P2 j _ hj ⟨S8, s8, hr1, hr2, rfl⟩ ih2
  show k_X4_isEdited_83 Q dp _ _ p (lN w) (nI L) (nI N) (nI (i + 1)) (nI (edR (dg w) (dg (nW d)) i j)) (nI (j + 1)) S8
  obtain ⟨p1, p2, p3, p4, p5, p6⟩ := kp s8
  unfold k_X4_isEdited_83
  refine pk_lt N (j + 1) (fun z3 => ?_) (fun z3 => ?_)
  · obtain rfl : j = N := by omega
    rintro _ rfl
    rw [nI_add]
    exact ih _ (by omega) ⟨S8, s8, hr1, rfl⟩
  rw [pk_sub (show 1 ≤ i + 1 by omega), pk_sub (show 1 ≤ j + 1 by omega), show i + 1 - 1 = i by omega, show j + 1 - 1 = j by omega]
  refine q_digitAt hw (by omega) ⟨p1, ?_⟩
  rw [p6]
  refine q_digitAt hw2 (by omega) ?_
  have b1 := (edR_ge (a := dg w) (b := dg (nW d)) i (j + 1)).2.2
  have b2 := (edR_ge (a := dg w) (b := dg (nW d)) (i + 1) j).2.2
  have b3 := (edR_ge (a := dg w) (b := dg (nW d)) i j).2.2
  -- one cell more
  have go : ∀ c, c = (if dg w i = dg (nW d) j then 0 else 1) → ∀ R58 : Nat → Int64 → Int32 → Int32 → Int32 → cS → Prop, k_X4_isEdited_131 Q dp R58 (fun b0 b1 b2 b3 b4 b5 b6 S => P2 (b0, b1, b2, b3, b4, b5, b6, S)) p (lN w) (nI L) (nI N) (nI (i + 1)) (nI (j + 1)) (nI c) (nI (edR (dg w) (dg (nW d)) i j)) S8 := by
    intro c hc R58
    have c1 : c ≤ 1 := by rw [hc]; split <;> omega
    have X : ∀ {k : Nat}, k ≤ N → cX S8 e 14 (nI k) := fun hk => cX_mk p3 p4 (by omega) (show _ < N + 1 by omega) rfl
    unfold k_X4_isEdited_131
    rw [nI_clamp (show j + 1 < 2 ^ 31 by omega), pk_sub (show 1 ≤ j + 1 by omega), show j + 1 - 1 = j by omega, nI_clamp (show j < 2 ^ 31 by omega)]
    refine ⟨p1, e, p2, X (by omega), p1, e, p2, X (by omega), ?_⟩
    rw [hr1 j (Nat.le_refl j), hr2 (j + 1) (by omega) (by omega), nI_mn (by omega) (by omega), nI_add, nI_add, nI_mn (by omega) (by omega)]
    rintro _ rfl
    refine ⟨p1, e, p2, X (by omega), ?_⟩
    rw [hr2 (j + 1) (by omega) (by omega)]
    rintro _ rfl
    refine ⟨p1, e, p2, X (by omega), fun S17 e17 => ?_⟩
    rintro _ rfl
    rw [nI_add]
    have ev : min (min (edR (dg w) (dg (nW d)) (i + 1) j) (edR (dg w) (dg (nW d)) i (j + 1)) + 1) (edR (dg w) (dg (nW d)) i j + c) = edR (dg w) (dg (nW d)) (i + 1) (j + 1) := by
      rw [edR, hc, Nat.min_comm (edR (dg w) (dg (nW d)) (i + 1) j)]
    rw [ev] at e17
    refine ih2 _ (by omega) ⟨S17, sub_tr s8 (e17 ▸ sub_SI rfl) (fun _ _ z => z), fun k hk => ?_, fun k hk hk2 => heI_SI_k e17 (by omega) (hr2 k (by omega) hk2), rfl⟩
    by_cases q : k = j + 1
    · subst q; exact heI_SI_s e17
    · exact heI_SI_k e17 q (hr1 k (by omega))
  have q1 := dg_lt w i
  have q2 := dg_lt (nW d) j
  refine w_ne (dg w i) (dg (nW d) j) (fun c => ?_) (fun c => ?_)
  · unfold k_X4_isEdited_117
    exact ⟨fun _ => go 1 (by rw [if_neg c]) _, fun z => absurd rfl z⟩
  · unfold k_X4_isEdited_117
    exact ⟨fun z => absurd z (by decide), fun _ => go 0 (by rw [if_pos c]) _⟩
/-- a leaf that tells is well made -/
def tlOk (d : Nd) : Prop := 3 ≤ nK d ∧ nK d ≤ 5 ∧ nL d ≤ 20 ∧ nW d < 37 ^ 12 ∧ ptOk d ∧ nT d = []
theorem q_isTold {Q : Int32 → cS → Prop} {w : Nat} (g : ndT S ρ κ p d b) (hd : tlOk d) (hw : w < 37 ^ 12) (hκ : κ ≠ 18) (h : ∀ T, fr S T ρ ρ [18] → Q (bI (tdB d w)) T) : k_X4_isTold Q dp p (lN w) S := by
  obtain ⟨k1, k2, k3, k4, k5, -⟩ := hd
  have hw' : w < 2 ^ 63 := Nat.lt_trans hw (by decide)
  have hw2 : nW d < 2 ^ 63 := Nat.lt_trans k4 (by decide)
  obtain ⟨g1, g2, ⟨i1, i2, i3, i4, i5, i6⟩, -⟩ := id g
  unfold k_X4_isTold
  refine q_lengthOf hw' ⟨g1, ?_⟩
  rw [i1]
  unfold tdB at h
  by_cases c : nK d = 5
  · rw [if_pos c] at h
    rw [show ckN (nK d) = 3 by rw [c]; rfl]
    exact ⟨fun z => absurd rfl z, fun _ => ⟨g1, q_isEdited g c hw' hw2 k3 hκ (fun T f => ⟨⟨_, rfl⟩, h T f⟩)⟩⟩
  · rw [if_neg c] at h
    have : ckN (nK d) = 2 := by
      rcases (show nK d = 3 ∨ nK d = 4 by omega) with q | q
      · rw [q]; rfl
      · rw [q]; rfl
    rw [this]
    exact ⟨fun _ => ⟨g1, q_isLike g k5 hw' ⟨⟨_, rfl⟩, h S fr_rf⟩⟩, fun z => absurd z (by decide)⟩
end TLD
