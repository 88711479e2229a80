/-! the law's files -/
/-- a view that may be missing, in a row: its flag, then the view -/
def lOf (S : cS) (c made : Nat) (sl : Nat → List Nat) (fl : Nat) (v : Vw) : Prop := (cA S c 14 ∧ cn S c = 64) ∧ (cI S c 0 = nI fl ∧ fl < 2 ^ 30) ∧ (0 < fl → lVw S c made sl v)
def ofO (o : Option Vw) : Nat := if o.isSome = true then 1 else 0
def ofS (o : Option (Nat × Vw)) : Nat := match o with
  | none => 0
  | some s => s.1 + 1
def vwS (o : Option (Nat × Vw)) : Vw := match o with
  | none => ([], fun _ _ => true)
  | some s => s.2
def slO (o1 o2 : Option (Nat × Vw)) (k : Nat) : Option (Nat × Vw) := if k = 0 then o1 else if k = 1 then o2 else none
def fz (cm pr : Option Vw) (r k : Nat) : Int32 := if r = 26 then bI (oLv cm (k / 100) (k % 100)) else bI (oLv pr (k / 100) (k % 100))
def onN (sl : Nat → List Nat) (o : Option Vw) (n : Nat) : Nat := if n ∈ ovL o then bN (fun j => !oLv o n j) (sl n).length else 0
theorem of_in {o : Option Vw} {n : Nat} : (decide (0 < ofO o) && decide (n ∈ (cmV o).1)) = decide (n ∈ ovL o) := by
  cases o with
  | none => simp [ofO, ovL]
  | some s =>
    show (true && decide (n ∈ (cmV (some s)).1)) = decide (n ∈ ovL (some s))
    rw [Bool.true_and]
    exact decide_eq_decide.mpr Iff.rfl
theorem os_in {o : Option (Nat × Vw)} {n : Nat} : (decide (0 < ofS o) && decide (n ∈ (vwS o).1)) = (match o with | none => false | some s => decide (n ∈ s.2.1)) := by
  cases o with
  | none => simp [ofS]
  | some s =>
    have h1 : decide (0 < ofS (some s)) = true := decide_eq_true (Nat.succ_pos s.1)
    rw [h1, Bool.true_and]
    exact decide_eq_decide.mpr Iff.rfl
theorem dvB_on {sl : Nat → List Nat} {o : Option Vw} {n : Nat} : dvB (sgR sl) o n = decide (onN sl o n ≠ 0) := by
  rw [dvB_any, any_c, sgR_len]
  unfold onN
  by_cases h : n ∈ ovL o
  · rw [if_pos h]
    rw [Bool.eq_iff_iff]
    simp only [h, decide_true, Bool.true_and, decide_eq_true_eq]
    rw [anyB_iff, Ne, bN_z]
    constructor
    · rintro ⟨j, h1, h2⟩ h3
      have := h3 j h1
      simp at this h2
      rw [this] at h2
      exact absurd h2 (by decide)
    · intro h3
      refine Classical.byContradiction fun hc => h3 (fun j hj => ?_)
      by_cases e : (!oLv o n j) = true
      · exact absurd ⟨j, hj, e⟩ hc
      · simpa using e
  · rw [if_neg h]
    simp [h]
theorem sv_on {sl : Nat → List Nat} {cm pr : Option Vw} {n : Nat} (h1 : n ∈ ovL cm) (h2 : n ∈ ovL pr) (hl : (sl n).length ≤ 10) : svB (fz cm pr) (sgR sl) n = decide (onN sl pr n = onN sl cm n) := by
  unfold svB onN
  rw [if_pos h1, if_pos h2, sgR_len, Bool.eq_iff_iff, allB_iff, decide_eq_true_eq]
  have e : ∀ j, j < (sl n).length → (fz cm pr 26 (100 * n + j) = fz cm pr 28 (100 * n + j) ↔ oLv cm n j = oLv pr n j) := fun j hj => by
    unfold fz
    rw [if_pos rfl, if_neg (by decide), show (100 * n + j) / 100 = n by omega, show (100 * n + j) % 100 = j by omega]
    constructor
    · intro h
      cases h3 : oLv cm n j <;> cases h4 : oLv pr n j <;> rw [h3, h4] at h <;> first | rfl | exact absurd h (by decide)
    · intro h
      rw [h]
  constructor
  · intro h
    refine bN_ext (fun j hj => ?_)
    rw [(e j hj).mp (of_decide_eq_true (h j hj))]
  · intro h j hj
    have := bN_inj h j hj
    refine decide_eq_true ((e j hj).mpr ?_)
    cases h3 : oLv cm n j <;> cases h4 : oLv pr n j <;> rw [h3, h4] at this <;> first | rfl | exact absurd this (by decide)
theorem dv_in {sl : Nat → List Nat} {o : Option Vw} {n : Nat} (h : onN sl o n ≠ 0) : n ∈ ovL o := by
  unfold onN at h
  by_cases c : n ∈ ovL o
  · exact c
  · rw [if_neg c] at h; exact absurd rfl h
theorem rfN_on {sl : Nat → List Nat} {ids : List Nat} {cm pr : Option Vw} {o1 o2 : Option (Nat × Vw)} {n : Nat} (hl : (sl n).length ≤ 10) : rfN (fz cm pr) (sgR sl) ids cm pr (slO o1 o2) n = (if (((decide (n ∈ ovL cm) || decide (n ∈ ovL pr)) || ((decide (0 < ofS o1) && decide (n ∈ (vwS o1).1)) || (decide (0 < ofS o2) && decide (n ∈ (vwS o2).1)))) || decide (n ∈ ids)) = true then 1 else 0) + ((if onN sl cm n ≠ 0 then 1 else 0) + (if onN sl pr n ≠ 0 ∧ onN sl pr n ≠ onN sl cm n then 1 else 0)) := by
  unfold rfN
  rw [dvB_on, dvB_on, os_in, os_in]
  have e5 : anyB (lkM (slO o1 o2) n) 5 = ((match o1 with | none => false | some s => decide (n ∈ s.2.1)) || (match o2 with | none => false | some s => decide (n ∈ s.2.1))) := by
    unfold anyB anyB anyB anyB anyB anyB lkM slO
    cases o1 <;> cases o2 <;> simp
  rw [e5]
  congr 1
  · have : ∀ a b c d : Bool, (a || b || c || d) = (((a || b) || d) || c) := by decide
    rw [this]
  · congr 1
    · simp
    · by_cases h1 : onN sl pr n = 0
      · simp [h1]
      · by_cases h2 : onN sl cm n = 0
        · simp [h1, h2]
        · rw [sv_on (dv_in h2) (dv_in h1) hl]
          simp [h1, h2]
section LJ
variable {S T U : cS} {dp made : Nat} {sl : Nat → List Nat}
theorem q_of_in {Q : Int32 → cS → Prop} {c fl n : Nat} {v : Vw} (g : lOf S c made sl fl v) (hm : made ≤ 30) (hn : n < 30) (h : Q (bI (decide (0 < fl) && decide (n ∈ v.1))) S) : k_L_isIn Q dp c (nI n) S := by
  by_cases c0 : fl = 0
  · subst c0
    exact q_L_isIn (ids := []) g.1 (by decide) g.2.1.1 (Nat.zero_le _) (fun c => absurd c (by decide)) hn (by simpa using h)
  · have gv := g.2.2 (by omega)
    exact q_L_isIn g.1 g.2.1.2 g.2.1.1 gv.2.2.1 (fun _ => ⟨gv.2.1, fun k n hk => ⟨(gv.2.2.2.1 k n hk).1, Nat.lt_of_lt_of_le (gv.2.2.2.1 k n hk).2 hm⟩⟩) hn h
theorem q_L_files {Q : Int32 → cS → Prop} {z x c p q g m : Nat} {ids : List Nat} {cm pr : Option Vw} {o1 o2 : Option (Nat × Vw)} {mg : Option (Vw × Nat)} (gx : lXi S z x m made sl ids) (gc : lOf S c made sl (ofO cm) (cmV cm)) (gp : lOf S p made sl (ofO pr) (cmV pr)) (gq : lOf S q made sl (ofS o1) (vwS o1)) (gg : lOf S g made sl (ofS o2) (vwS o2)) (h2 : cI S m 2 = nI made) (h9 : cI S m 9 = bI mg.isSome) (h11 : ∀ s k, mg = some (s, k) → cI S m 11 = nI k ∧ k < 100) (h : Q (nI (rfA (fz cm pr) (sgR sl) made ids mg cm pr (slO o1 o2))) S) : k_L_files Q dp z x c p q g m S := by
  obtain ⟨⟨⟨z1, z2⟩, ⟨x1, x2⟩, m1, m2⟩, ⟨g1, g2⟩, g3, g4, g5⟩ := id gx
  have mX : ∀ k, k < 17 → cX S m 14 (nI k) := fun k hk => cX_mk m1 m2 (by decide) hk rfl
  have loop : ∀ n0 : Nat, n0 ≤ 3 → Q (nI (n0 + smN (rfN (fz cm pr) (sgR sl) ids cm pr (slO o1 o2)) made)) S → k_L_files_51L Q dp z x c p q g m (nI n0) (nI 0) S := by
    intro n0 hn0 hQ
    unfold k_L_files_51L
    refine lfp_cnt made (fun i y => y = (z, x, c, p, q, g, m, nI (n0 + smN (rfN (fz cm pr) (sgR sl) ids cm pr (slO o1 o2)) i), nI i, S)) ?_ rfl
    rintro P i _ hi rfl ih
    show k_L_files_51 Q dp _ z x c p q g m (nI (n0 + smN (rfN (fz cm pr) (sgR sl) ids cm pr (slO o1 o2)) i)) (nI i) S
    unfold k_L_files_51
    rw [nI_clamp (show 2 < 2 ^ 31 by decide), h2]
    refine ⟨mX 2 (by decide), pk_le made i (fun c' => ?_) (fun c' => ?_)⟩
    · obtain rfl : i = made := by omega
      exact hQ
    · have i30 : i < 30 := by omega
      obtain ⟨lz, l10⟩ := g5 i c'
      have bd : smN (rfN (fz cm pr) (sgR sl) ids cm pr (slO o1 o2)) i ≤ 3 * i := smN_le (fun k => by
        unfold rfN
        repeat' split
        all_goals omega) i
      have k248 : ∀ a b e : Nat, a + b + e = rfN (fz cm pr) (sgR sl) ids cm pr (slO o1 o2) i → k_L_files_248 Q dp (fun b0 b1 b2 b3 b4 b5 b6 b7 b8 S => P (b0, b1, b2, b3, b4, b5, b6, b7, b8, S)) z x c p q g m (nI i) (nI e) (nI (a + b)) (nI (n0 + smN (rfN (fz cm pr) (sgR sl) ids cm pr (slO o1 o2)) i)) S := fun a b e he => by
        unfold k_L_files_248
        intro y1 ey1 y2 ey2
        rw [ey1, ey2, nI_add, nI_add, nI_add]
        refine ih _ c' ?_
        rw [smN_s, ← he, Nat.add_assoc]
      have k206 : ∀ b : Bool, b = (((decide (i ∈ ovL cm) || decide (i ∈ ovL pr)) || ((decide (0 < ofS o1) && decide (i ∈ (vwS o1).1)) || (decide (0 < ofS o2) && decide (i ∈ (vwS o2).1)))) || decide (i ∈ ids)) → k_L_files_206 Q dp (fun b0 b1 b2 b3 b4 b5 b6 b7 b8 S => P (b0, b1, b2, b3, b4, b5, b6, b7, b8, S)) z x c p q g m (nI (n0 + smN (rfN (fz cm pr) (sgR sl) ids cm pr (slO o1 o2)) i)) (nI i) (bI b) (nI (onN sl cm i)) (nI (onN sl pr i)) S := fun b hb => by
        have on10 : ∀ o, onN sl o i < 2 ^ 30 := fun o => by
          unfold onN
          split
          · exact bN_le31 (by omega)
          · decide
        have rr := rfN_on (ids := ids) (cm := cm) (pr := pr) (o1 := o1) (o2 := o2) l10
        rw [← hb] at rr
        have k220 : ∀ t : Nat, t = (if b = true then 1 else 0) → k_L_files_220 Q dp (fun b0 b1 b2 b3 b4 b5 b6 b7 b8 S => P (b0, b1, b2, b3, b4, b5, b6, b7, b8, S)) z x c p q g m (nI i) (nI (onN sl cm i)) (nI (onN sl pr i)) (nI t) (nI (n0 + smN (rfN (fz cm pr) (sgR sl) ids cm pr (slO o1 o2)) i)) S := fun t ht => by
          rw [← ht] at rr
          have k230 : ∀ u : Nat, u = (if onN sl cm i ≠ 0 then 1 else 0) → k_L_files_230 Q dp (fun b0 b1 b2 b3 b4 b5 b6 b7 b8 S => P (b0, b1, b2, b3, b4, b5, b6, b7, b8, S)) z x c p q g m (nI i) (nI (onN sl cm i)) (nI (onN sl pr i)) (nI u) (nI t) (nI (n0 + smN (rfN (fz cm pr) (sgR sl) ids cm pr (slO o1 o2)) i)) S := fun u hu => by
            rw [← hu] at rr
            unfold k_L_files_230 k_L_files_247
            rw [nI_add]
            refine w_z _ (fun d => k248 t u 0 (by rw [rr, if_neg (by omega)]; omega)) (fun d => ?_) rfl (by have := on10 pr; omega)
            exact pk_eq _ _ (fun d2 => k248 t u 0 (by rw [rr, if_neg (by omega)]; omega)) (fun d2 => k248 t u 1 (by rw [rr, if_pos ⟨by omega, d2⟩]; omega)) rfl rfl (by have := on10 pr; omega) (by have := on10 cm; omega)
          unfold k_L_files_220
          exact w_z _ (fun d => k230 0 (by rw [if_neg (by omega)])) (fun d => k230 1 (by rw [if_pos (by omega)])) rfl (by have := on10 cm; omega)
        unfold k_L_files_206
        exact w_B0 (fun e => k220 0 (by rw [e]; rfl)) (fun e => k220 1 (by rw [e]; rfl))
      have whole : ∀ (o : Option Vw) (r : Nat), lOf S r made sl (ofO o) (cmV o) → i ∈ ovL o → cX S r 14 (nI (32 + i)) ∧ nI (bN (fun _ => true) (sl i).length) &&& (cI S r (32 + i) ^^^ (-1)) = nI (onN sl o i) := fun o r gr hi' => by
        refine ⟨cX_mk gr.1.1 gr.1.2 (by decide) (by omega : 32 + i < 64) rfl, ?_⟩
        cases o with
        | none => exact absurd hi' List.not_mem_nil
        | some s =>
          have gv := gr.2.2 (show 0 < 1 from Nat.one_pos)
          have e := gv.2.2.2.2 i hi'
          have e' : cI S r (32 + i) = nI (bN (s.2 i) (sl i).length) := e
          rw [e', bN_not]
          unfold onN
          rw [if_pos hi']
          rfl
      have k103 : ∀ b : Bool, b = ((decide (i ∈ ovL cm) || decide (i ∈ ovL pr)) || ((decide (0 < ofS o1) && decide (i ∈ (vwS o1).1)) || (decide (0 < ofS o2) && decide (i ∈ (vwS o2).1)))) → k_L_files_103 Q dp (fun b0 b1 b2 b3 b4 b5 b6 b7 b8 S => P (b0, b1, b2, b3, b4, b5, b6, b7, b8, S)) z x c p q g m (nI (n0 + smN (rfN (fz cm pr) (sgR sl) ids cm pr (slO o1 o2)) i)) (nI i) (bI b) S := fun b hb => by
        unfold k_L_files_103 k_L_files_108L
        refine lfp_cnt ids.length (fun j y => y = (z, x, c, p, q, g, m, nI (n0 + smN (rfN (fz cm pr) (sgR sl) ids cm pr (slO o1 o2)) i), nI i, bI (b || decide (i ∈ ids.take j)), nI j, S)) ?_ (by rw [List.take_zero]; simp)
        rintro P2 j _ hj rfl ih2
        show k_L_files_108 Q dp _ _ z x c p q g m _ (nI i) (bI (b || decide (i ∈ ids.take j))) (nI j) S
        unfold k_L_files_108
        rw [nI_clamp (show 3 < 2 ^ 31 by decide), g3]
        refine ⟨mX 3 (by decide), pk_le ids.length j (fun d => ?_) (fun d => ?_)⟩
        · rw [List.take_of_length_le d, nI_clamp (show i < 2 ^ 31 by omega), lz, bN_whole (by omega)]
          refine ⟨cX_mk z1 z2 (by decide) i30 rfl, ?_⟩
          rintro _ rfl
          have k179 : k_L_files_179 Q dp (fun b0 b1 b2 b3 b4 b5 b6 b7 b8 S => P (b0, b1, b2, b3, b4, b5, b6, b7, b8, S)) z x c p q g m (nI (n0 + smN (rfN (fz cm pr) (sgR sl) ids cm pr (slO o1 o2)) i)) (nI i) (bI (b || decide (i ∈ ids))) (nI (bN (fun _ => true) (sl i).length)) (nI (onN sl cm i)) S := by
            unfold k_L_files_179
            refine q_of_in gp g1 i30 ?_
            rw [of_in]
            refine w_B0 (fun e => ?_) (fun e => ?_)
            · have := k206 (b || decide (i ∈ ids)) (by rw [hb])
              rwa [show onN sl pr i = 0 from if_neg (of_decide_eq_false e)] at this
            · obtain ⟨w1, w2⟩ := whole pr p gp (of_decide_eq_true e)
              rw [nI_add, nI_clamp (show 32 + i < 2 ^ 31 by omega), w2]
              exact ⟨w1, k206 (b || decide (i ∈ ids)) (by rw [hb])⟩
          refine q_of_in gc g1 i30 ?_
          rw [of_in]
          refine w_B0 (fun e => ?_) (fun e => ?_)
          · rwa [show onN sl cm i = 0 from if_neg (of_decide_eq_false e)] at k179
          · obtain ⟨w1, w2⟩ := whole cm c gc (of_decide_eq_true e)
            rw [nI_add, nI_clamp (show 32 + i < 2 ^ 31 by omega), w2]
            exact ⟨w1, k179⟩
        · obtain ⟨k, hk⟩ := get_ex (l := ids) (k := j) d
          obtain ⟨⟨xX, ex⟩, -, -, k30⟩ := lXi_X gx hk
          have tk : ids.take (j + 1) = ids.take j ++ [k] := by rw [List.take_succ, hk]; rfl
          have nxt : ∀ t : Bool, t = (b || decide (i ∈ ids.take (j + 1))) → k_L_files_136 Q dp (fun b0 b1 b2 b3 b4 b5 b6 b7 b8 S => P (b0, b1, b2, b3, b4, b5, b6, b7, b8, S)) (fun b0 b1 b2 b3 b4 b5 b6 b7 b8 b9 b10 S => P2 (b0, b1, b2, b3, b4, b5, b6, b7, b8, b9, b10, S)) z x c p q g m (nI (n0 + smN (rfN (fz cm pr) (sgR sl) ids cm pr (slO o1 o2)) i)) (nI i) (nI j) (bI t) S := fun t ht => by
            unfold k_L_files_136
            rintro _ rfl
            rw [nI_add]
            refine ih2 _ d ?_
            rw [ht]
          refine w_Bn (fun e => nxt true ?_) (fun e => ?_)
          · rw [tk]
            cases hb' : b with
            | true => rfl
            | false =>
              rw [hb', Bool.false_or] at e
              have := of_decide_eq_true e
              simp [this]
          · rw [nI_clamp (show j < 2 ^ 31 by omega), ex]
            rw [Bool.or_eq_false_iff] at e
            have e2 := of_decide_eq_false e.2
            refine ⟨xX, w_ne k i (fun e3 => nxt false ?_) (fun e3 => nxt true ?_)⟩
            · rw [tk, e.1]; simp [e2]; exact fun z => e3 z.symm
            · rw [tk, e3]; simp
      refine q_of_in gc g1 i30 ?_
      rw [of_in]
      refine w_Bn (fun e => k103 true (by rw [e]; rfl)) (fun e => ?_)
      refine q_of_in gp g1 i30 ?_
      rw [of_in]
      refine w_Bn (fun e1 => k103 true (by rw [e, e1]; rfl)) (fun e1 => ?_)
      refine q_of_in gq g1 i30 ?_
      refine w_Bn (fun e2 => k103 true (by rw [e, e1, e2]; rfl)) (fun e2 => ?_)
      refine q_of_in gg g1 i30 ?_
      exact w_B0 (fun e3 => k103 false (by rw [e, e1, e2, e3]; rfl)) (fun e3 => k103 true (by rw [e, e1, e2, e3]; rfl))
  unfold rfA at h
  have k44 : ∀ a : Nat, a ≤ 2 → a = (if cm.isSome = true then 1 else 0) + (if pr.isSome = true then 1 else 0) → k_L_files_22 Q dp z x c p q g m (nI (if pr.isSome = true then 1 else 0)) (nI (if cm.isSome = true then 1 else 0)) S := fun a ha e => by
    have k45 : ∀ t : Nat, t = (if mgC mg = 0 then 0 else 1) → k_L_files_45 Q dp z x c p q g m (nI t) (nI ((if cm.isSome = true then 1 else 0) + (if pr.isSome = true then 1 else 0))) S := fun t ht => by
      unfold k_L_files_45
      rintro _ rfl
      rw [nI_add]
      refine loop _ (by rw [← e, ht]; split <;> omega) ?_
      rw [ht]
      exact h
    unfold k_L_files_22
    rw [nI_clamp (show 9 < 2 ^ 31 by decide), h9, nI_add]
    refine ⟨mX 9 (by decide), w_N1 (fun e1 => ?_) (fun e1 => ⟨mX 11 (by decide), ?_⟩)⟩
    · unfold k_L_files_44
      refine k45 0 ?_
      cases mg with
      | none => rfl
      | some s => exact nomatch e1
    · cases mg with
      | none => exact nomatch e1
      | some s =>
        obtain ⟨e2, e3⟩ := h11 s.1 s.2 rfl
        rw [nI_clamp (show 11 < 2 ^ 31 by decide), e2]
        by_cases c0 : s.2 = 0
        · refine ⟨fun _ => ?_, fun hc => absurd ((nI_le0 (by omega)).mpr c0) hc⟩
          unfold k_L_files_44
          exact k45 0 (by show 0 = if s.2 = 0 then 0 else 1; rw [if_pos c0])
        · exact ⟨fun hc => absurd ((nI_le0 (by omega)).mp hc) c0, fun _ => k45 1 (by show 1 = if s.2 = 0 then 0 else 1; rw [if_neg c0])⟩
  have flag : ∀ (o : Option Vw) (r : Nat), lOf S r made sl (ofO o) (cmV o) → cX S r 14 (nI 0) ∧ cI S r 0 = nI (if o.isSome = true then 1 else 0) := fun o r gr => ⟨cX_mk gr.1.1 gr.1.2 (by decide) (by decide : 0 < 64) rfl, gr.2.1.1⟩
  obtain ⟨cX0, c0⟩ := flag cm c gc
  obtain ⟨pX0, p0⟩ := flag pr p gp
  have k11 : k_L_files_11 Q dp z x c p q g m (nI (if cm.isSome = true then 1 else 0)) S := by
    unfold k_L_files_11
    rw [nI_clamp (show 0 < 2 ^ 31 by decide), p0]
    refine ⟨pX0, ?_⟩
    have kk := k44 _ (by split <;> split <;> omega) rfl
    cases pr with
    | none => exact ⟨fun _ => kk, fun hc => absurd (by decide : nI 0 ≤ 0) hc⟩
    | some s => exact ⟨fun hc => absurd hc (by decide : ¬ nI 1 ≤ 0), fun _ => kk⟩
  unfold k_L_files
  rw [nI_clamp (show 0 < 2 ^ 31 by decide), c0]
  refine ⟨cX0, ?_⟩
  cases cm with
  | none => exact ⟨fun _ => k11, fun hc => absurd (by decide : nI 0 ≤ 0) hc⟩
  | some s => exact ⟨fun hc => absurd hc (by decide : ¬ nI 1 ≤ 0), fun _ => k11⟩
end LJ
