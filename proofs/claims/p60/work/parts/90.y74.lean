/-! the class: a view is searched -/
/-- the cache by one segment more -/
def caS (qn n : Nat) (s s' : List (Nat × Nat × Nat) × Nat × Nat) : Prop := s'.2.1 = s.2.1 + 1 ∧ ((∃ i x, s.1[i]? = some x ∧ x.1 = qn ∧ x.2.1 = n ∧ (∀ i' x', i' < i → s.1[i']? = some x' → ¬ (x'.1 = qn ∧ x'.2.1 = n)) ∧ s'.1 = s.1.set i (qn, n, s.2.1 + 1) ∧ s'.2.2 = s.2.2 + 1) ∨ ((∀ x, x ∈ s.1 → ¬ (x.1 = qn ∧ x.2.1 = n)) ∧ s'.1 = ptC s.1 (qn, n, s.2.1 + 1) ∧ s'.2.2 = s.2.2))
/-- .. by the first segments; entries, uses, what was taken -/
def caR (qn : Nat) (ids : List Nat) : Nat → List (Nat × Nat × Nat) × Nat × Nat → List (Nat × Nat × Nat) × Nat × Nat → Prop
  | 0, s, s' => s' = s
  | k + 1, s, s' => ∃ s1, caR qn ids k s s1 ∧ ∃ n, ids[k]? = some n ∧ caS qn n s1 s'
/-- hits, and how many blocks were skipped, by the first segments -/
noncomputable def srS (nd : Nat → Nd) (m w0 w1 : Nat) (rr : Nat → Nat) (sg : Nat → List Dc) (lv : Nat → Nat → Bool) (mo : Nat) (ids : List Nat) : Nat → List (Nat × Nat) × Nat
  | 0 => ([], 0)
  | k + 1 => match ids[k]? with
    | some n => bkS (hfN nd m w0 w1 rr sg lv n) (bdS nd m w0 w1 rr sg n) mo (sg n).length (srS nd m w0 w1 rr sg lv mo ids k) (((sg n).length + 3) / 4)
    | none => srS nd m w0 w1 rr sg lv mo ids k
theorem srS_len {nd : Nat → Nd} {m w0 w1 mo : Nat} {rr : Nat → Nat} {sg : Nat → List Dc} {lv : Nat → Nat → Bool} {ids : List Nat} (h1 : 1 ≤ mo) : ∀ k, (srS nd m w0 w1 rr sg lv mo ids k).1.length ≤ mo
  | 0 => Nat.zero_le _
  | k + 1 => by
    have ih := srS_len (nd := nd) (m := m) (w0 := w0) (w1 := w1) (rr := rr) (sg := sg) (lv := lv) (ids := ids) h1 k
    rw [srS]
    cases ids[k]? with
    | none => exact ih
    | some n => exact bkS_len ih h1 _
theorem caS_len {qn n : Nat} {s s' : List (Nat × Nat × Nat) × Nat × Nat} (h : s.1.length ≤ 8) (g : caS qn n s s') : s'.1.length ≤ 8 ∧ s'.2.1 = s.2.1 + 1 := by
  obtain ⟨g1, ⟨i, x, -, -, -, -, e, -⟩ | ⟨-, e, -⟩⟩ := g
  · rw [e, List.length_set]; exact ⟨h, g1⟩
  · rw [e]; exact ⟨(ptC_len h).2.1, g1⟩
section SR
variable {S T U : cS} {ρ : Nat → Nat} {M : List Nat} {dp made V rd w0 w1 wr mo fo ro pl ra gi q m : Nat} {so : Nat → Nat} {sd : Nat → List Nat} {sg : Nat → List Dc} {ids : List Nat} {lv : Nat → Nat → Bool} {mk fs rw : Nat → Nat} {nd : Nat → Nd}
variable {fd hk hr cq cs ct cm st sp u : Nat} {cmr : Nat → Nat} {CL : List (Nat × Nat × Nat)} {mb : Nat → Nat → Nat → Bool}
/-- the rarities of the leaves -/
def rrL (nd : Nat → Nd) (m : Nat) (sg : Nat → List Dc) (lv : Nat → Nat → Bool) (ids : List Nat) (i : Nat) : Nat := if i < (lfI nd m).length then rrN sg lv ids (lfD nd m i) else 0
theorem rrL_le (hq : qOk nd m) (h : allN sg lv ids < 65535) : ∀ i, rrL nd m sg lv ids i ≤ 102 := by
  intro i
  unfold rrL
  split
  · rename_i hi
    obtain ⟨-, ho⟩ := qOk_lf hq hi
    refine rrN_le h ?_
    rcases ho with w | w
    · exact w.2.2.1
    · rw [w.2.2.2.2.2]; decide
  · exact Nat.zero_le _
theorem q_search {Q : Int32 → cS → Prop} {qn most : Nat} (gk : fdK S ρ fd rd hk hr cq cs ct cm st sp cmr) (gc : fdC S fd cq cs ct cmr CL u mb sg) (hu : u + ids.length < 2 ^ 30) (hqn : qn < 2 ^ 31) (hmo : 1 ≤ most ∧ most ≤ 20) (g : rSt S ρ dp so sd sg made V ids lv rd w0 w1 wr mo fo ro pl ra gi mk fs rw q m nd) (hq : qOk nd m) (hl : (lfI nd m).length ≤ 24) (h1 : (qsS nd m).1 = 1) (hm : m < 100) (hw : w0 ≤ 9 ∧ w1 ≤ 9) (hall : allN sg lv ids < 65535) (hmade : made < 1000) (hW : ∀ n, n ∈ ids → tkW (sg n)) (hmb : ∀ n, n ∈ ids → ∀ j, j < (sg n).length → mb qn n j = (vlN nd m w0 w1 (rrL nd m sg lv ids) (sg n) j).isSome) (h : ∀ T c, fk S T ρ ρ [80, 18, 21, 22, 23, 24, 25, 26, 27, 28, 29, 30, 31, 32, 33] → (∀ z, cr T z fd = cr S z fd) → (∀ i, i < (lfI nd m).length → cI T ra i = nI (rrL nd m sg lv ids i)) → (∀ i, (lfI nd m).length ≤ i → cI T ra i = cI S ra i) → fdH T fd hk hr (srS nd m w0 w1 (rrL nd m sg lv ids) sg lv most ids ids.length).1 → ci T 36 fd = nI (srS nd m w0 w1 (rrL nd m sg lv ids) sg lv most ids ids.length).2 → caR qn ids ids.length (CL, u, 0) c → ci T 37 fd = nI c.2.2 → fdC T fd cq cs ct cmr c.1 c.2.1 mb sg → Q (nI (srS nd m w0 w1 (rrL nd m sg lv ids) sg lv most ids ids.length).1.length) T) : k_X1_search Q dp fd V q (nI qn) (nI most) S := by
  obtain ⟨rr, hrr0⟩ : ∃ rr, rr = rrL nd m sg lv ids := ⟨_, rfl⟩
  have hrr : ∀ i, rr i ≤ 102 := by rw [hrr0]; exact rrL_le hq hall
  rw [← hrr0] at h hmb
  unfold k_X1_search
  refine ⟨gk.1, fun S1 e1 => ?_⟩
  have s1 : cSub S S1 (fun z => z = fd) := e1 ▸ sub_Si rfl
  refine ⟨sub_A1 s1 gk.1, fun S2 e2 => ?_⟩
  have s2 : cSub S S2 (fun z => z = fd) := sub_tr s1 (e2 ▸ sub_Si rfl) (fun _ _ z => z)
  refine ⟨sub_A1 s2 gk.1, fun S3 e3 => ?_⟩
  have s3 : cSub S S3 (fun z => z = fd) := sub_tr s2 (e3 ▸ sub_Si rfl) (fun _ _ z => z)
  have f3 : fk S S3 ρ ρ [21] := fk_of s3 (fun a _ w => by rw [w, gk.2.1]; decide) (by decide)
  have r3 : ∀ z a, cr S3 z a = cr S z a := fun z a => by rw [e3, e2, e1]; rfl
  have I3 : cI S3 = cI S := by rw [e3, e2, e1]; rfl
  have h33 : ci S3 33 fd = nI 0 := hi_Si_q e3 (by decide) (hi_Si_q e2 (by decide) (hi_Si_s e1))
  have h36 : ci S3 36 fd = nI 0 := hi_Si_q e3 (by decide) (hi_Si_s e2)
  have h37 : ci S3 37 fd = nI 0 := hi_Si_s e3
  have h38 : ∀ z, z ≠ 33 → z ≠ 36 → z ≠ 37 → ci S3 z fd = ci S z fd := fun z z1 z2 z3 => hi_Si_q e3 z3 (hi_Si_q e2 z2 (hi_Si_q e1 z1 rfl))
  have gk3 := fdK_fk f3 (by decide) (fun z => r3 z fd) gk
  have g3 := rSt_fk f3 (by decide) g
  refine ⟨gk3.1, rd, gk3.2.2.1, g3.2.2.2.1.1, q_readRarities g3 hq hl (fun S5 f5 ra5 ro5 => ?_)⟩
  have n5 : ρ fd ∉ [80, 24, 26] := by rw [gk3.2.1]; decide
  have f05 : fk S S5 ρ ρ [80, 18, 21, 22, 23, 24, 25, 26, 27, 28, 29, 30, 31, 32, 33] := fk_s (fk_up f3 (by decide)) (fk_up f5 (by decide))
  have r5 : ∀ z, cr S5 z fd = cr S z fd := fun z => (fr_cr f5.1 gk3.1 n5).trans (r3 z fd)
  have i5 : ∀ z, ci S5 z fd = ci S3 z fd := fun z => fr_ci f5.1 gk3.1 n5
  have raA := g.2.2.2.1.2.2.2.2.2.2.2.1
  have ra5' : ∀ i, i < (lfI nd m).length → cI S5 ra i = nI (rr i) := fun i hi => by
    rw [ra5 i hi, hrr0]
    unfold rrL
    rw [if_pos hi]
  have ro5' : ∀ i, (lfI nd m).length ≤ i → cI S5 ra i = cI S ra i := fun i hi => by rw [ro5 i hi, I3]
  have fdH5 : fdH S5 fd hk hr ([] : List (Nat × Nat)) := ⟨(i5 33).trans h33, Nat.zero_le _, fun i x hx => absurd (get_lt hx) (Nat.not_lt_zero i)⟩
  have fdC5 : fdC S5 fd cq cs ct cmr CL u mb sg := by
    obtain ⟨c1, c2, c3, c4⟩ := gc
    refine ⟨(i5 38).trans ((h38 38 (by decide) (by decide) (by decide)).trans c1), c2, (i5 39).trans ((h38 39 (by decide) (by decide) (by decide)).trans c3), fun i x hx => ?_⟩
    obtain ⟨-, -, -, -, -, a1, a2, a3, a4, -, -⟩ := gk3
    have i8 : i < 8 := by have := get_lt hx; omega
    have a4' := a4.2.2.2.2.1 i i8
    rw [sub_cI f5.1.1 a1.2.1 (by rw [a1.2.2.2]; decide), sub_cI f5.1.1 a2.2.1 (by rw [a2.2.2.2]; decide), sub_cI f5.1.1 a3.2.1 (by rw [a3.2.2.2]; decide), sub_cI f5.1.1 a4'.2.1 (by rw [a4'.2.2.2]; decide), I3]
    exact c4 i x hx
  unfold k_X1_search_27L
  refine lfp_cnt ids.length (fun k y => ∃ S' c, fk S S' ρ ρ [80, 18, 21, 22, 23, 24, 25, 26, 27, 28, 29, 30, 31, 32, 33] ∧ (∀ z, cr S' z fd = cr S z fd) ∧ (∀ i, i < (lfI nd m).length → cI S' ra i = nI (rr i)) ∧ (∀ i, (lfI nd m).length ≤ i → cI S' ra i = cI S ra i) ∧ fdH S' fd hk hr (srS nd m w0 w1 rr sg lv most ids k).1 ∧ ci S' 36 fd = nI (srS nd m w0 w1 rr sg lv most ids k).2 ∧ caR qn ids k (CL, u, 0) c ∧ c.2.1 = u + k ∧ ci S' 37 fd = nI c.2.2 ∧ fdC S' fd cq cs ct cmr c.1 c.2.1 mb sg ∧ y = (fd, V, q, nI qn, nI most, nI k, S')) ?_ ⟨S5, (CL, u, 0), f05, r5, ra5', ro5', fdH5, (i5 36).trans h36, rfl, rfl, (i5 37).trans h37, fdC5, rfl⟩
  rintro P k _ hk' ⟨S', c, f', r', raS, roS, gh', sk', hc, cu, tk', gc', rfl⟩ ih
  show k_X1_search_27 Q dp _ fd V q (nI qn) (nI most) (nI k) S'
  have gk' := fdK_fk f' (by decide) r' gk
  have g' := rSt_fk f' (by decide) g
  obtain ⟨gs, hid, gv, gr, gq⟩ := id g'
  have i8 : ids.length < 8000 := (rSt_bd g').2.1
  unfold k_X1_search_27
  refine ⟨(g_vA gv).1, g_vsize gv (pk_le ids.length k (fun z => ⟨gk'.1, ?_⟩) (fun z => ⟨(g_vA gv).1, q_vatT gv z (fun y n r hn ho ty tr => ⟨fun w => absurd w (by simp), fun b hb => ?_⟩)⟩))⟩
  · obtain rfl : k = ids.length := by omega
    rw [gh'.1]
    exact h S' c f' r' raS roS gh' sk' hc tk' gc'
  obtain rfl := Option.some.inj hb
  have hnm := List.mem_of_getElem? hn
  have gS := gs n (hid n hnm)
  have hK : (sg n).length ≤ 100 := gS.2.2.2.2.2.1
  refine ⟨gk'.1, rd, gk'.2.2.1, ho.1, so n, ho.2.1, gr.1, q_readSegment gr gq hq hl gS (hW n hnm) (fun S4 f4 h4 => ?_)⟩
  have n4 : ρ fd ∉ [80, 18, 22, 23, 24, 25] := by rw [gk'.2.1]; decide
  have f04 : fk S S4 ρ ρ [80, 18, 21, 22, 23, 24, 25, 26, 27, 28, 29, 30, 31, 32, 33] := fk_s f' (fk_up f4 (by decide))
  have r4 : ∀ z, cr S4 z fd = cr S' z fd := fun z => fr_cr f4.1 gk'.1 n4
  have i4 : ∀ z, ci S4 z fd = ci S' z fd := fun z => fr_ci f4.1 gk'.1 n4
  have gk4 := fdK_fk f4 (by decide) r4 gk'
  have g4 := rSt_fk f04 (by decide) g
  have ho4 : hoT S4 y (so n) r (sg n).length (lv n) := hoT_sub f4.1.1 ho (by rw [ty]; decide) (by rw [tr]; decide)
  have gc4 : fdC S4 fd cq cs ct cmr c.1 c.2.1 mb sg := by
    obtain ⟨c1, c2, c3, c4⟩ := gc'
    refine ⟨(i4 38).trans c1, c2, (i4 39).trans c3, fun i x hx => ?_⟩
    obtain ⟨-, -, -, -, -, a1, a2, a3, a4, -, -⟩ := gk'
    have i8 : i < 8 := by have := get_lt hx; omega
    have a4' := a4.2.2.2.2.1 i i8
    rw [sub_cI f4.1.1 a1.2.1 (by rw [a1.2.2.2]; decide), sub_cI f4.1.1 a2.2.1 (by rw [a2.2.2.2]; decide), sub_cI f4.1.1 a3.2.1 (by rw [a3.2.2.2]; decide), sub_cI f4.1.1 a4'.2.1 (by rw [a4'.2.2.2]; decide)]
    exact c4 i x hx
  have gh4 : fdH S4 fd hk hr (srS nd m w0 w1 rr sg lv most ids k).1 := by
    obtain ⟨t1, t2, t3⟩ := gh'
    obtain ⟨-, -, -, kR, rR, -⟩ := gk'
    refine ⟨(i4 33).trans t1, t2, ?_⟩
    rw [sub_cI f4.1.1 kR.2.1 (by rw [kR.2.2.2]; decide), sub_cI f4.1.1 rR.2.1 (by rw [rR.2.2.2]; decide)]
    exact t3
  have raS4 : ∀ i, cI S4 ra i = cI S' ra i := fun i => by
    have q1 := gr.2.2.2.2.2.2.2.1
    rw [sub_cI f4.1.1 q1.2.1 (by rw [q1.2.2.2]; decide)]
  have n1000 : n < 1000 := by have := g.2.1 n hnm; omega
  -- what is left of the step
  have rest : ∀ {S14 : cS} {e : Nat} {c' : List (Nat × Nat × Nat) × Nat × Nat}, e < 8 → fk S4 S14 ρ ρ [21, 30, 31, 32, 33, 18, 27] → (∀ z, cr S14 z fd = cr S4 z fd) → (∀ z, z ≠ 37 → z ≠ 38 → z ≠ 39 → ci S14 z fd = ci S4 z fd) → caS qn n c c' → ci S14 37 fd = nI c'.2.2 → fdC S14 fd cq cs ct cmr c'.1 c'.2.1 mb sg → (∀ j, j < (sg n).length → cI S14 (cmr e) j = bI (mb qn n j)) → (cA S14 fd 1 ∧ ∃ b15 : Nat, cr S14 43 fd = some b15 ∧ (cX S14 b15 18 (nI e) ∧ ((∃ b16 : Nat, cO S14 b15 (nI e).toNatClampNeg = some b16 ∧ (cA S14 fd 1 ∧ (k_X1_searchBlocks (fun S_17 => k_X1_search_91 Q dp (fun b0 b1 b2 b3 b4 b5 S => P (b0, b1, b2, b3, b4, b5, S)) fd V q (nI qn) (nI most) (nI k) S_17) dp fd q y b16 (nI most) S14)))))) := by
    intro S14 e c' he f14 r14 i14 hcs tk14 gc14 hrow
    have gk14 := fdK_fk f14 (by decide) r14 gk4
    have f014 : fk S S14 ρ ρ [80, 18, 21, 22, 23, 24, 25, 26, 27, 28, 29, 30, 31, 32, 33] := fk_s f04 (fk_up f14 (by decide))
    have g14 := rSt_fk f014 (by decide) g
    have cmR := gk14.2.2.2.2.2.2.2.2.1
    have gh14 : fdH S14 fd hk hr (srS nd m w0 w1 rr sg lv most ids k).1 := by
      obtain ⟨t1, t2, t3⟩ := gh4
      obtain ⟨-, -, -, kR, rR, -⟩ := gk4
      refine ⟨(i14 33 (by decide) (by decide) (by decide)).trans t1, t2, ?_⟩
      rw [sub_cI f14.1.1 kR.2.1 (by rw [kR.2.2.2]; decide), sub_cI f14.1.1 rR.2.1 (by rw [rR.2.2.2]; decide)]
      exact t3
    have raS14 : ∀ i, cI S14 ra i = cI S' ra i := fun i => by
      have q1 := g4.2.2.2.1.2.2.2.2.2.2.2.1
      rw [sub_cI f14.1.1 q1.2.1 (by rw [q1.2.2.2]; decide)]; exact raS4 i
    have ho14 : hoT S14 y (so n) r (sg n).length (lv n) := hoT_sub f14.1.1 ho4 (by rw [ty]; decide) (by rw [tr]; decide)
    refine ⟨gk14.1, cm, cmR.1, cX_mk cmR.2.1 cmR.2.2.1 (by decide) he rfl, cmr e, by rw [nI_clamp (show e < 2 ^ 31 by omega)]; exact (cmR.2.2.2.2.1 e he).1, gk14.1, ?_⟩
    refine q_searchBlocks (rr := rr) gk14 gh14 ((i14 36 (by decide) (by decide) (by decide)).trans ((i4 36).trans sk')) hmo (srS_len hmo.1 k) he hnm ho14 ty tr g14 hq hl h1 hm hw hrr (fun i hi => by rw [raS14]; exact raS i hi) (fun i hi j hj => ?_) (fun j hj => by rw [hrow j hj, hmb n hnm j hj]) (fun S17 f17 r17 i17 gh17 sk17 => ?_)
    · have a1 := g4.2.2.2.1.2.2.2.1.2.2.2.2.1 i (by omega)
      have a2 := g4.2.2.2.1.2.2.2.2.1.2.2.2.2.1 i (by omega)
      rw [sub_cI f14.1.1 a1.2.1 (by rw [a1.2.2.2]; decide), sub_cI f14.1.1 a2.2.1 (by rw [a2.2.2.2]; decide)]
      exact h4 i hi j hj
    · have es : srS nd m w0 w1 rr sg lv most ids (k + 1) = bkS (hfN nd m w0 w1 rr sg lv n) (bdS nd m w0 w1 rr sg n) most (sg n).length (srS nd m w0 w1 rr sg lv most ids k) (((sg n).length + 3) / 4) := by rw [srS, hn]
      have ra17 : ∀ i, cI S17 ra i = cI S' ra i := fun i => by
        have q1 := g14.2.2.2.1.2.2.2.2.2.2.2.1
        rw [sub_cI f17.1.1 q1.2.1 (by rw [q1.2.2.2]; decide)]; exact raS14 i
      unfold k_X1_search_91
      rintro _ rfl
      rw [nI_add]
      refine ih _ z ⟨S17, c', fk_s f014 (fk_up f17 (by decide)), fun z => (r17 z).trans ((r14 z).trans ((r4 z).trans (r' z))), fun i hi => by rw [ra17]; exact raS i hi, fun i hi => by rw [ra17]; exact roS i hi, by rw [es]; exact gh17, by rw [es]; exact sk17, ⟨c, hc, n, hn, hcs⟩, ?_, (i17 37 (by decide) (by decide)).trans tk14, ?_, rfl⟩
      · have := hcs.1
        omega
      · obtain ⟨c1, c2, c3, c4⟩ := gc14
        refine ⟨(i17 38 (by decide) (by decide)).trans c1, c2, (i17 39 (by decide) (by decide)).trans c3, fun i x hx => ?_⟩
        obtain ⟨-, -, -, -, -, a1, a2, a3, a4, -, -⟩ := gk14
        have i8 : i < 8 := by have := get_lt hx; omega
        have a4' := a4.2.2.2.2.1 i i8
        rw [sub_cI f17.1.1 a1.2.1 (by rw [a1.2.2.2]; decide), sub_cI f17.1.1 a2.2.1 (by rw [a2.2.2.2]; decide), sub_cI f17.1.1 a3.2.1 (by rw [a3.2.2.2]; decide), sub_cI f17.1.1 a4'.2.1 (by rw [a4'.2.2.2]; decide)]
        exact c4 i x hx
  refine ⟨ho4.1, so n, ho4.2.1, gk4.1, q_entryOf (rr := rr) (tk := c.2.2) gk4 gc4 ((i4 37).trans tk') (by omega) hqn hnm (by omega) g4 hq hl h1 hm hw hrr (fun i hi => by rw [raS4]; exact raS i hi) (fun i hi j hj => (h4 i hi j hj).1) (hmb n hnm) (fun i x T hx e1 e2 e3 fT rT iT tT gT => ?_) (fun T hno fT rT iT tT gT => ?_)⟩
  · have hi := get_lt hx
    have h8 := gc4.2.1
    refine rest (c' := (c.1.set i (qn, n, c.2.1 + 1), c.2.1 + 1, c.2.2 + 1)) (by omega) fT rT iT ⟨rfl, Or.inl ⟨i, x, hx, e1, e2, e3, rfl, rfl⟩⟩ tT gT (fun j hj => ?_)
    have := (gT.2.2.2 i (qn, n, c.2.1 + 1) ((set_get hi).mpr (Or.inl ⟨rfl, rfl⟩))).2.2.2 j hj
    exact this
  · refine rest (c' := (ptC c.1 (qn, n, c.2.1 + 1), c.2.1 + 1, c.2.2)) (frC_lt _) fT rT iT ⟨rfl, Or.inr ⟨hno, rfl, rfl⟩⟩ tT gT (fun j hj => ?_)
    exact (gT.2.2.2 (frC c.1) (qn, n, c.2.1 + 1) (ptC_len gc4.2.1).2.2).2.2.2 j hj
end SR
