/-! the reference: a query is made -/
/-- the queries in rows -/
def rQl (v : Nat → Int32) (f : Nat → Nat → Int32) (g : Nat → Nat → Int64) (qs : List (Nat × (Nat → Nd))) : Prop := v 73 = nI qs.length ∧ qs.length ≤ 40 ∧ ∀ i e, qs[i]? = some e → f 48 i = nI e.1 ∧ e.1 ≤ 48 ∧ ∀ k, k < e.1 → rNd f g (48 * i + k) (e.2 k)
section QY
variable {v v' : Nat → Int32} {f f' : Nat → Nat → Int32} {g g' : Nat → Nat → Int64} {l : LGt} {n m : Nat} {P : Nat → Nat} {nd : Nat → Nd} {qs : List (Nat × (Nat → Nd))}
theorem rQl_lf (h73 : v' 73 = v 73) (hL : lfF f f' g g') (h : rQl v f g qs) : rQl v' f' g' qs := by
  obtain ⟨h1, h2, h3⟩ := h
  obtain ⟨l1, l2, l3, l4, l5⟩ := hL
  refine ⟨h73.trans h1, h2, fun i e hi => ?_⟩
  obtain ⟨a1, a2, a3⟩ := h3 i e hi
  have il := get_lt hi
  refine ⟨(l2 i (by omega)).trans a1, a2, fun k hk => ?_⟩
  obtain ⟨x0, x1, x2, x3, x4⟩ := l3 (48 * i + k) (by omega)
  exact rNd_cp (a3 k hk) x0 x1 x2 x3 x4 (fun j hj => (l4 _ (by omega)).2) (fun j hj => (l4 _ (by omega)).1) (fun j hj => l5 _ (by omega))
theorem rQl_fr (h1 : v' 73 = v 73) (h3 : ∀ r, r ∈ [40, 41, 42, 43, 44, 46, 47, 48] → f' r = f r) (h4 : g' 45 = g 45) (h : rQl v f g qs) : rQl v' f' g' qs := by
  refine rQl_lf h1 ⟨zK_eq (h3 43 (by decide)), fun i _ => by rw [h3 48 (by decide)], fun c _ => ?_, fun c _ => ?_, fun c _ => by rw [h3 47 (by decide)]⟩ h
  · rw [h3 40 (by decide), h3 41 (by decide), h3 42 (by decide), h3 43 (by decide), h3 44 (by decide)]
    exact ⟨rfl, rfl, rfl, rfl, rfl⟩
  · rw [h3 46 (by decide), h4]; exact ⟨rfl, rfl⟩
/-- the draft's nodes are copied -/
theorem p_query51 {Q : QI} {q : Nat} (h73 : v 73 = nI q) (hq : q < 40) (hz : zRw f 43 1968) (h : ∀ f' g', (∀ r, r ∉ [40, 41, 42, 43, 44, 46, 47] → f' r = f r) → (∀ r, r ≠ 45 → g' r = g r) → (∀ c, (c < 48 * q ∨ 1920 ≤ c) → f' 40 c = f 40 c ∧ f' 41 c = f 41 c ∧ f' 42 c = f 42 c ∧ f' 43 c = f 43 c ∧ f' 44 c = f 44 c) → (∀ c, (c < 288 * q ∨ 11520 ≤ c) → f' 46 c = f 46 c ∧ g' 45 c = g 45 c) → (∀ c, (c < 576 * q ∨ 23040 ≤ c) → f' 47 c = f 47 c) → (∀ j, j < 48 → f' 40 (48 * q + j) = f 40 (1920 + j) ∧ f' 41 (48 * q + j) = f 41 (1920 + j) ∧ f' 42 (48 * q + j) = f 42 (1920 + j) ∧ f' 43 (48 * q + j) = f 43 (1920 + j) ∧ f' 44 (48 * q + j) = f 44 (1920 + j)) → (∀ j i, j < 48 → i < 6 → f' 46 (6 * (48 * q + j) + i) = f 46 (6 * (1920 + j) + i) ∧ g' 45 (6 * (48 * q + j) + i) = g 45 (6 * (1920 + j) + i)) → (∀ j i, j < 48 → i < 12 → f' 47 (12 * (48 * q + j) + i) = f 47 (12 * (1920 + j) + i)) → zK f f' 43 → r_scraps (fun v_3 f_3 g_3 => ∀ v4 : Nat → Int32, v4 = upd v_3 73 ((v_3 73) + (nI 1)) → Q ((v4 73) - (nI 1)) v4 f_3 g_3) v f' g') : r_query_51L Q (nI 0) v f g := by
  unfold r_query_51L
  refine lfp_cnt 48 (fun k y => ∃ f' g', (∀ r, r ∉ [40, 41, 42, 43, 44, 46, 47] → f' r = f r) ∧ (∀ r, r ≠ 45 → g' r = g r) ∧ (∀ c, (c < 48 * q ∨ 48 * q + k ≤ c) → f' 40 c = f 40 c ∧ f' 41 c = f 41 c ∧ f' 42 c = f 42 c ∧ f' 43 c = f 43 c ∧ f' 44 c = f 44 c) ∧ (∀ c, (c < 288 * q ∨ 288 * q + 6 * k ≤ c) → f' 46 c = f 46 c ∧ g' 45 c = g 45 c) ∧ (∀ c, (c < 576 * q ∨ 576 * q + 12 * k ≤ c) → f' 47 c = f 47 c) ∧ (∀ j, j < k → f' 40 (48 * q + j) = f 40 (1920 + j) ∧ f' 41 (48 * q + j) = f 41 (1920 + j) ∧ f' 42 (48 * q + j) = f 42 (1920 + j) ∧ f' 43 (48 * q + j) = f 43 (1920 + j) ∧ f' 44 (48 * q + j) = f 44 (1920 + j)) ∧ (∀ j i, j < k → i < 6 → f' 46 (6 * (48 * q + j) + i) = f 46 (6 * (1920 + j) + i) ∧ g' 45 (6 * (48 * q + j) + i) = g 45 (6 * (1920 + j) + i)) ∧ (∀ j i, j < k → i < 12 → f' 47 (12 * (48 * q + j) + i) = f 47 (12 * (1920 + j) + i)) ∧ zK f f' 43 ∧ y = (nI k, v, f', g')) ?_ ⟨f, g, fun _ _ => rfl, fun _ _ => rfl, fun _ _ => ⟨rfl, rfl, rfl, rfl, rfl⟩, fun _ _ => ⟨rfl, rfl⟩, fun _ _ => rfl, fun j hj => absurd hj (Nat.not_lt_zero j), fun j i hj => absurd hj (Nat.not_lt_zero j), fun j i hj => absurd hj (Nat.not_lt_zero j), zK_rf, rfl⟩
  rintro P k _ hk ⟨f', g', a1, a2, a3, a4, a5, a6, a7, a8, a9, rfl⟩ ih
  show r_query_51 Q _ (nI k) v f' g'
  unfold r_query_51 r_draftAt
  rw [h73, pk_mul, nI_add]
  refine pk_le 48 k (fun z => ?_) (fun z => ?_)
  · obtain rfl : k = 48 := by omega
    exact h f' g' a1 a2 (fun c hc => a3 c (by omega)) (fun c hc => a4 c (by omega)) (fun c hc => a5 c (by omega)) a6 a7 a8 a9
  rintro _ rfl
  rw [nI_add]
  rintro _ rfl
  have tin : vp_in (nI (48 * q + k)) 1968 := pk_in (48 * q + k) 1968 (by omega)
  have fin : vp_in (nI (1920 + k)) 1968 := pk_in (1920 + k) 1968 (by omega)
  have tc : (nI (48 * q + k)).toNatClampNeg = 48 * q + k := nI_clamp (by omega)
  have fc : (nI (1920 + k)).toNatClampNeg = 1920 + k := nI_clamp (by omega)
  rw [tc, fc]
  obtain ⟨b0, b1, b2, b3, b4⟩ := a3 (1920 + k) (by omega)
  refine ⟨fin, tin, fun f8 e8 => ⟨fin, tin, fun f9 e9 => ⟨fin, tin, fun f10 e10 => ⟨fin, tin, ?_, fun f11 e11 => ⟨fin, tin, fun f12 e12 => ?_⟩⟩⟩⟩⟩
  · rw [e10, mU_n (by decide), e9, mU_n (by decide), e8, mU_n (by decide), b3]
    exact hz _ (by omega)
  have o10 : ∀ r, r ≠ 40 → r ≠ 41 → r ≠ 42 → f10 r = f' r := fun r h0 h1 h2 => by rw [e10, mU_n h2, e9, mU_n h1, e8, mU_n h0]
  have q40 : f12 40 = fun c => if c = 48 * q + k then f 40 (1920 + k) else f' 40 c := by rw [e12, mU_n (by decide), e11, mU_n (by decide), e10, mU_n (by decide), e9, mU_n (by decide), e8, mU_s, b0]
  have q41 : f12 41 = fun c => if c = 48 * q + k then f 41 (1920 + k) else f' 41 c := by rw [e12, mU_n (by decide), e11, mU_n (by decide), e10, mU_n (by decide), e9, mU_s, e8, mU_n (by decide), b1]
  have q42 : f12 42 = fun c => if c = 48 * q + k then f 42 (1920 + k) else f' 42 c := by rw [e12, mU_n (by decide), e11, mU_n (by decide), e10, mU_s, e9, mU_n (by decide), e8, mU_n (by decide), b2]
  have q43 : f12 43 = fun c => if c = 48 * q + k then f 43 (1920 + k) else f' 43 c := by rw [e12, mU_n (by decide), e11, mU_s, o10 43 (by decide) (by decide) (by decide), b3]
  have q44 : f12 44 = fun c => if c = 48 * q + k then f 44 (1920 + k) else f' 44 c := by
    have e44 : f11 44 = f' 44 := by rw [e11, mU_n (by decide)]; exact o10 44 (by decide) (by decide) (by decide)
    rw [e12, mU_s, e44, b4]
  have o12 : ∀ r, r ∉ [40, 41, 42, 43, 44] → f12 r = f' r := fun r hr => by
    rw [e12, mU_n (fun e => hr (by rw [e]; decide)), e11, mU_n (fun e => hr (by rw [e]; decide))]
    exact o10 r (fun e => hr (by rw [e]; decide)) (fun e => hr (by rw [e]; decide)) (fun e => hr (by rw [e]; decide))
  have z12 : zK f f12 43 := fun c hc => by
    rw [q43]
    show isZ (if c = 48 * q + k then f 43 (1920 + k) else f' 43 c)
    split
    · exact hz _ (by omega)
    · exact a9 c hc
  unfold r_query_136L
  refine lfp_cnt 6 (fun i y => ∃ f2 g2, (∀ r, r ≠ 46 → f2 r = f12 r) ∧ (∀ r, r ≠ 45 → g2 r = g r) ∧ (∀ c, (c < 6 * (48 * q + k) ∨ 6 * (48 * q + k) + i ≤ c) → f2 46 c = f' 46 c ∧ g2 45 c = g' 45 c) ∧ (∀ j, j < i → f2 46 (6 * (48 * q + k) + j) = f 46 (6 * (1920 + k) + j) ∧ g2 45 (6 * (48 * q + k) + j) = g 45 (6 * (1920 + k) + j)) ∧ y = (nI k, nI (48 * q + k), nI (1920 + k), nI i, v, f2, g2)) ?_ ⟨f12, g', fun _ _ => rfl, a2, fun c _ => ⟨by rw [o12 46 (by decide)], rfl⟩, fun j hj => absurd hj (Nat.not_lt_zero j), rfl⟩
  rintro P2 i _ hi ⟨f2, g2, c1, c2, c3, c4, rfl⟩ ih2
  show r_query_136 Q _ _ (nI k) (nI (48 * q + k)) (nI (1920 + k)) (nI i) v f2 g2
  unfold r_query_136
  refine pk_le 6 i (fun z2 => ?_) (fun z2 => ?_)
  · obtain rfl : i = 6 := by omega
    have e47 : f2 47 = f' 47 := (c1 47 (by decide)).trans (o12 47 (by decide))
    unfold r_query_200L
    refine lfp_cnt 12 (fun i y => ∃ f3, (∀ r, r ≠ 47 → f3 r = f2 r) ∧ (∀ c, (c < 12 * (48 * q + k) ∨ 12 * (48 * q + k) + i ≤ c) → f3 47 c = f' 47 c) ∧ (∀ j, j < i → f3 47 (12 * (48 * q + k) + j) = f 47 (12 * (1920 + k) + j)) ∧ y = (nI k, nI (48 * q + k), nI (1920 + k), nI i, v, f3, g2)) ?_ ⟨f2, fun _ _ => rfl, fun c _ => by rw [e47], fun j hj => absurd hj (Nat.not_lt_zero j), rfl⟩
    rintro P3 i _ hi3 ⟨f3, d1, d2, d3, rfl⟩ ih3
    show r_query_200 Q _ _ (nI k) (nI (48 * q + k)) (nI (1920 + k)) (nI i) v f3 g2
    unfold r_query_200
    refine pk_le 12 i (fun z3 => ?_) (fun z3 => ?_)
    · obtain rfl : i = 12 := by omega
      rintro _ rfl
      rw [nI_add]
      have x40 : f3 40 = f12 40 := (d1 40 (by decide)).trans (c1 40 (by decide))
      have x41 : f3 41 = f12 41 := (d1 41 (by decide)).trans (c1 41 (by decide))
      have x42 : f3 42 = f12 42 := (d1 42 (by decide)).trans (c1 42 (by decide))
      have x43 : f3 43 = f12 43 := (d1 43 (by decide)).trans (c1 43 (by decide))
      have x44 : f3 44 = f12 44 := (d1 44 (by decide)).trans (c1 44 (by decide))
      have x46 : f3 46 = f2 46 := d1 46 (by decide)
      refine ih _ z ⟨f3, g2, fun r hr => ?_, c2, fun c hc => ?_, fun c hc => ?_, fun c hc => ?_, fun j hj => ?_, fun j i hj hi => ?_, fun j i hj hi => ?_, zK_tr z12 (zK_eq x43), rfl⟩
      · rw [d1 r (fun e => hr (by rw [e]; decide)), c1 r (fun e => hr (by rw [e]; decide)), o12 r (fun w => hr (by revert w; simp only [List.mem_cons, List.not_mem_nil, or_false]; omega))]
        exact a1 r hr
      · rw [x40, x41, x42, x43, x44, q40, q41, q42, q43, q44]
        have ne : ¬ c = 48 * q + k := by omega
        have := a3 c (by omega)
        exact ⟨(if_neg ne).trans this.1, (if_neg ne).trans this.2.1, (if_neg ne).trans this.2.2.1, (if_neg ne).trans this.2.2.2.1, (if_neg ne).trans this.2.2.2.2⟩
      · rw [x46]
        have y1 := c3 c (by omega)
        have y2 := a4 c (by omega)
        exact ⟨y1.1.trans y2.1, y1.2.trans y2.2⟩
      · exact (d2 c (by omega)).trans (a5 c (by omega))
      · rw [x40, x41, x42, x43, x44, q40, q41, q42, q43, q44]
        by_cases e : j = k
        · subst e
          exact ⟨if_pos rfl, if_pos rfl, if_pos rfl, if_pos rfl, if_pos rfl⟩
        · have ne : ¬ 48 * q + j = 48 * q + k := by omega
          have := a6 j (by omega)
          exact ⟨(if_neg ne).trans this.1, (if_neg ne).trans this.2.1, (if_neg ne).trans this.2.2.1, (if_neg ne).trans this.2.2.2.1, (if_neg ne).trans this.2.2.2.2⟩
      · rw [x46]
        by_cases e : j = k
        · subst e; exact c4 i hi
        · have y1 := c3 (6 * (48 * q + j) + i) (by omega)
          have y2 := a7 j i (by omega) hi
          exact ⟨y1.1.trans y2.1, y1.2.trans y2.2⟩
      · by_cases e : j = k
        · subst e; exact d3 i hi
        · exact (d2 _ (by omega)).trans (a8 j i (by omega) hi)
    · have io : vp_in (nI (12 * (1920 + k) + i)) 23616 := pk_in (12 * (1920 + k) + i) 23616 (by omega)
      have jo : vp_in (nI (12 * (48 * q + k) + i)) 23616 := pk_in (12 * (48 * q + k) + i) 23616 (by omega)
      rw [pk_mul, pk_mul, nI_add, nI_add, nI_clamp (show 12 * (1920 + k) + i < 2 ^ 31 by omega), nI_clamp (show 12 * (48 * q + k) + i < 2 ^ 31 by omega), d2 (12 * (1920 + k) + i) (by omega), a5 (12 * (1920 + k) + i) (by omega)]
      refine ⟨io, jo, fun f14 e14 => ?_⟩
      rintro _ rfl
      rw [nI_add]
      have r47 : f14 47 = fun c => if c = 12 * (48 * q + k) + i then f 47 (12 * (1920 + k) + i) else f3 47 c := by rw [e14, mU_s]
      refine ih3 _ z3 ⟨f14, fun r hr => by rw [e14, mU_n hr]; exact d1 r hr, fun c hc => ?_, fun j hj => ?_, rfl⟩
      · rw [r47]; exact (if_neg (show ¬ c = 12 * (48 * q + k) + i by omega)).trans (d2 c (by omega))
      · rw [r47]
        show (if 12 * (48 * q + k) + j = 12 * (48 * q + k) + i then f 47 (12 * (1920 + k) + i) else f3 47 (12 * (48 * q + k) + j)) = _
        by_cases e : j = i
        · subst e; rw [if_pos rfl]
        · rw [if_neg (by omega)]; exact d3 j (by omega)
  · have io : vp_in (nI (6 * (1920 + k) + i)) 11808 := pk_in (6 * (1920 + k) + i) 11808 (by omega)
    have jo : vp_in (nI (6 * (48 * q + k) + i)) 11808 := pk_in (6 * (48 * q + k) + i) 11808 (by omega)
    have y1 := c3 (6 * (1920 + k) + i) (by omega)
    have y2 := a4 (6 * (1920 + k) + i) (by omega)
    rw [pk_mul, pk_mul, nI_add, nI_add, nI_clamp (show 6 * (1920 + k) + i < 2 ^ 31 by omega), nI_clamp (show 6 * (48 * q + k) + i < 2 ^ 31 by omega), y1.2, y2.2, y1.1, y2.1]
    refine ⟨io, jo, fun g16 e16 => ⟨io, jo, fun f17 e17 => ?_⟩⟩
    rintro _ rfl
    rw [nI_add]
    have r45 : g16 45 = fun c => if c = 6 * (48 * q + k) + i then g 45 (6 * (1920 + k) + i) else g2 45 c := by rw [e16, mU_s]
    have r46 : f17 46 = fun c => if c = 6 * (48 * q + k) + i then f 46 (6 * (1920 + k) + i) else f2 46 c := by rw [e17, mU_s]
    refine ih2 _ z2 ⟨f17, g16, fun r hr => by rw [e17, mU_n hr]; exact c1 r hr, fun r hr => by rw [e16, mU_n hr]; exact c2 r hr, fun c hc => ?_, fun j hj => ?_, rfl⟩
    · have ne : ¬ c = 6 * (48 * q + k) + i := by omega
      rw [r45, r46]
      have := c3 c (by omega)
      exact ⟨(if_neg ne).trans this.1, (if_neg ne).trans this.2⟩
    · rw [r45, r46]
      show (if 6 * (48 * q + k) + j = 6 * (48 * q + k) + i then f 46 (6 * (1920 + k) + i) else f2 46 (6 * (48 * q + k) + j)) = _ ∧ (if 6 * (48 * q + k) + j = 6 * (48 * q + k) + i then g 45 (6 * (1920 + k) + i) else g2 45 (6 * (48 * q + k) + j)) = _
      by_cases e : j = i
      · subst e; rw [if_pos rfl, if_pos rfl]; exact ⟨rfl, rfl⟩
      · rw [if_neg (by omega), if_neg (by omega)]; exact c4 j (by omega)
theorem p_query {Q : QI} (hr : rPr v f g m nd) (hq : rQl v f g qs) (hm : m ≤ 48) (hpn : (qsS nd m).1 < 2 ^ 30) (hz : zRw f 43 1968) (hX : (qsS nd m).1 ≠ 1 ∨ 40 ≤ qs.length → Q (nI 0) (upd v 99 (nI 1)) f g) (h : (qsS nd m).1 = 1 → qs.length < 40 → ∀ v' f' g', rF [99, 71, 72, 73] [40, 41, 42, 43, 44, 46, 47, 48] [45] v f g v' f' g' → v' 99 = nI 0 → zK f f' 43 → (∀ nd' : Nat → Nd, rPr v' f' g' 0 nd') → rQl v' f' g' (qs ++ [(m, nd)]) → Q (nI qs.length) v' f' g') : r_query Q v f g := by
  obtain ⟨q1, q2, q3⟩ := id hq
  obtain ⟨p1, p2, p3, p4⟩ := id hr
  have no : ((qsS nd m).1 ≠ 1 ∨ 40 ≤ qs.length) → r_query_22 Q v f g := fun q => by
    unfold r_query_22 r_query_23
    exact goF (b1 := false) ⟨fun c => absurd rfl c, fun _ => hX q⟩
  unfold r_query
  rw [p3, q1]
  refine w_ne (qsS nd m).1 1 (fun c => no (Or.inl c)) (fun c => pk_le 40 qs.length (fun z => no (Or.inr z)) (fun z => ?_))
  unfold r_query_23
  refine goF (b1 := true) ⟨fun _ => ?_, fun c => absurd c (by decide)⟩
  have e73 : (upd v 99 (if true = true then nI 0 else nI 1)) 73 = nI qs.length := (upd_n (by decide)).trans q1
  have c40 : (nI 40).toNatClampNeg = 40 := nI_clamp (by decide)
  rw [e73, c40, nI_clamp (show qs.length < 2 ^ 31 by omega), p1]
  refine ⟨pk_in 40 41 (by decide), pk_in qs.length 41 (by omega), fun f2 e2 => ?_⟩
  have s48 : f2 48 = fun i => if i = qs.length then nI m else f 48 i := by rw [e2, mU_s]
  have o2 : ∀ r, r ≠ 48 → f2 r = f r := fun r hr' => by rw [e2, mU_n hr']
  refine p_query51 (v := upd v 99 (nI 0)) e73 z (zRw_e (o2 43 (by decide)) hz) (fun f' g' a1 a2 a3 a4 a5 a6 a7 a8 a9 => ?_)
  have s48' : f' 48 = f2 48 := a1 48 (by decide)
  have hr1 : rPr (upd v 99 (nI 0)) f' g' m nd := by
    refine ⟨?_, (upd_n (by decide)).trans p2, (upd_n (by decide)).trans p3, fun k hk => ?_⟩
    · rw [s48', s48]; exact (if_neg (show ¬ 40 = qs.length by omega)).trans p1
    · obtain ⟨x0, x1, x2, x3, x4⟩ := a3 (1920 + k) (by omega)
      rw [o2 40 (by decide)] at x0
      rw [o2 41 (by decide)] at x1
      rw [o2 42 (by decide)] at x2
      rw [o2 43 (by decide)] at x3
      rw [o2 44 (by decide)] at x4
      exact rNd_cp (p4 k hk) x0 x1 x2 x3 x4 (fun j hj => (a4 _ (by omega)).2) (fun j hj => by rw [(a4 _ (by omega)).1, o2 46 (by decide)]) (fun j hj => by rw [a5 _ (by omega), o2 47 (by decide)])
  refine p_scraps hr1 (fun v3 f3 hF3 o48 hPr => ?_)
  rintro v4 e4
  have w73 : v3 73 = nI qs.length := (hF3.1 73 (by decide)).trans e73
  rw [w73, nI_add] at e4
  have x73 : v4 73 = nI (qs.length + 1) := by rw [e4]; exact upd_at
  rw [x73, pk_sub (by omega), Nat.add_sub_cancel]
  have v4o : ∀ i, i ≠ 73 → v4 i = v3 i := fun i hi => by rw [e4, upd_n hi]
  have f3o : ∀ r, r ≠ 48 → f3 r = f' r := fun r hr' => hF3.2.1 r (fun e => hr' (List.mem_singleton.mp e))
  refine h c z v4 f3 g' ⟨fun i hi => ?_, fun r hr' => ?_, fun r hr' => a2 r (fun e => hr' (by rw [e]; decide))⟩ ((v4o 99 (by decide)).trans ((hF3.1 99 (by decide)).trans upd_at)) (zK_tr (zK_eq (o2 43 (by decide))) (zK_tr a9 (zK_eq (f3o 43 (by decide))))) (fun nd' => rPr_fr (v4o 71 (by decide)) (v4o 72 (by decide)) (fun _ _ => rfl) rfl (hPr nd')) ⟨by rw [x73, List.length_append]; rfl, by rw [List.length_append]; show qs.length + 1 ≤ 40; omega, fun i e hi => ?_⟩
  · rw [v4o i (fun e => hi (by rw [e]; decide)), hF3.1 i (fun w => hi (by revert w; simp only [List.mem_cons, List.not_mem_nil, or_false]; omega))]
    exact upd_n (fun e => hi (by rw [e]; decide))
  · rw [f3o r (fun e => hr' (by rw [e]; decide)), a1 r (fun w => hr' (by revert w; simp only [List.mem_cons, List.not_mem_nil, or_false]; omega))]
    exact o2 r (fun e => hr' (by rw [e]; decide))
  · rcases app1_get.mp hi with hi | ⟨h1, h2⟩
    · obtain ⟨b1, b2, b3⟩ := q3 i e hi
      have il := get_lt hi
      refine ⟨?_, b2, fun k hk => ?_⟩
      · rw [o48 i (by omega), s48', s48]; exact (if_neg (show ¬ i = qs.length by omega)).trans b1
      · obtain ⟨x0, x1, x2, x3, x4⟩ := a3 (48 * i + k) (by omega)
        rw [o2 40 (by decide)] at x0
        rw [o2 41 (by decide)] at x1
        rw [o2 42 (by decide)] at x2
        rw [o2 43 (by decide)] at x3
        rw [o2 44 (by decide)] at x4
        refine rNd_cp (b3 k hk) ?_ ?_ ?_ ?_ ?_ (fun j hj => (a4 _ (by omega)).2) (fun j hj => ?_) (fun j hj => ?_)
        · rw [f3o 40 (by decide)]; exact x0
        · rw [f3o 41 (by decide)]; exact x1
        · rw [f3o 42 (by decide)]; exact x2
        · rw [f3o 43 (by decide)]; exact x3
        · rw [f3o 44 (by decide)]; exact x4
        · rw [f3o 46 (by decide), (a4 _ (by omega)).1, o2 46 (by decide)]
        · rw [f3o 47 (by decide), a5 _ (by omega), o2 47 (by decide)]
    · subst h2
      rw [h1]
      refine ⟨?_, hm, fun k hk => ?_⟩
      · rw [o48 _ (by omega), s48', s48]; exact if_pos rfl
      · have hk' : k < m := hk
        obtain ⟨x0, x1, x2, x3, x4⟩ := a6 k (by omega)
        rw [o2 40 (by decide)] at x0
        rw [o2 41 (by decide)] at x1
        rw [o2 42 (by decide)] at x2
        rw [o2 43 (by decide)] at x3
        rw [o2 44 (by decide)] at x4
        refine rNd_cp (p4 k hk') ?_ ?_ ?_ ?_ ?_ (fun j hj => (a7 k j (by omega) hj).2) (fun j hj => ?_) (fun j hj => ?_)
        · rw [f3o 40 (by decide)]; exact x0
        · rw [f3o 41 (by decide)]; exact x1
        · rw [f3o 42 (by decide)]; exact x2
        · rw [f3o 43 (by decide)]; exact x3
        · rw [f3o 44 (by decide)]; exact x4
        · rw [f3o 46 (by decide), (a7 k j (by omega) hj).1, o2 46 (by decide)]
        · rw [f3o 47 (by decide), a8 k j (by omega) hj, o2 47 (by decide)]
end QY
