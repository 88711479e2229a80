/-! the class: a segment is read for a query -/
theorem sub_CpI {S : cS} {a sp b dp n : Nat} {F : Nat → Prop} (h : F b) : cSub S (cCpyI S a sp b dp n) F := fun z hz => ⟨⟨hz, rfl, rfl⟩, fun hF => ⟨fun _ => ⟨rfl, rfl, rfl⟩, upR_n (fun e => hF (e ▸ h)), rfl, rfl⟩⟩
theorem nM_of {M N : List Nat} (h : N.all (fun τ => !M.contains τ) = true) : ∀ τ, τ ∈ N → τ ∉ M := fun τ hτ hin => by
  have := List.all_eq_true.mp h τ hτ
  rw [List.contains_iff_mem.mpr hin] at this
  exact Bool.noConfusion this
/-- what searches read: a view, a query, the reader -/
def rSt (S : cS) (ρ : Nat → Nat) (dp : Nat) (so : Nat → Nat) (sd : Nat → List Nat) (sg : Nat → List Dc) (made V : Nat) (ids : List Nat) (lv : Nat → Nat → Bool) (rd w0 w1 wr mo fo ro pl ra gi : Nat) (mk fs rw : Nat → Nat) (q m : Nat) (nd : Nat → Nd) : Prop := gSegs S ρ dp so sd sg made ∧ (∀ n, n ∈ ids → n < made) ∧ gVw S ρ dp so sd sg 11 11 V ids lv ∧ rdr S ρ rd w0 w1 wr mo fo ro pl ra gi mk fs rw ∧ gQy S ρ dp 17 17 q m nd
section RS
variable {S T U : cS} {ρ : Nat → Nat} {M : List Nat} {dp made V rd w0 w1 wr mo fo ro pl ra gi q m : Nat} {so : Nat → Nat} {sd : Nat → List Nat} {sg : Nat → List Dc} {ids : List Nat} {lv : Nat → Nat → Bool} {mk fs rw : Nat → Nat} {nd : Nat → Nd}
theorem rSt_fk (h : fk S T ρ ρ M) (hM : [8, 11, 17, 19, 20].all (fun τ => !M.contains τ) = true) (g : rSt S ρ dp so sd sg made V ids lv rd w0 w1 wr mo fo ro pl ra gi mk fs rw q m nd) : rSt T ρ dp so sd sg made V ids lv rd w0 w1 wr mo fo ro pl ra gi mk fs rw q m nd := by
  have nM := nM_of hM
  obtain ⟨g1, g2, ⟨hl, mm, hs, g3⟩, g4, g5⟩ := g
  have gs := gSegs_fr h (nM 8 (by decide)) g1
  exact ⟨gs, g2, ⟨hl, mm, hs, gVx_fr h.1 (nM 11 (by decide)) (nM 11 (by decide)) gs g2 g3⟩, rdr_s h.1 (nM 19 (by decide)) (nM 20 (by decide)) g4, gQy_fr h.1 (nM 17 (by decide)) (nM 17 (by decide)) (fun _ _ e => e) g5⟩
theorem fk_up {M N : List Nat} (h : fk S T ρ ρ M) (hM : (M.all (fun τ => N.contains τ)) = true) : fk S T ρ ρ N := fk_wk h (fun τ hτ => List.contains_iff_mem.mp (List.all_eq_true.mp hM τ hτ))
theorem fk_s {M : List Nat} (h : fk S T ρ ρ M) (g : fk T U ρ ρ M) : fk S U ρ ρ M := fk_tr h g (fun _ _ z => z)
theorem fk_of {F : Nat → Prop} (h : cSub S T F) (hM : ∀ a, a ∈ cL S → F a → ρ a ∈ M) (h80 : 80 ∉ M) : fk S T ρ ρ M := fr_fk ⟨sub_wk h hM, fun _ _ _ => rfl⟩ h80
theorem q_vatG {Q : Option Nat → cS → Prop} {k : Nat} (g : gVw S ρ dp so sd sg 11 11 V ids lv) (hk : k < ids.length) (h : ∀ y n r, ids[k]? = some n → hoT S y (so n) r (sg n).length (lv n) → Q (some y) S) : k_X10_at Q dp V (nI k) S := by
  obtain ⟨hl, mm, hs, g1, -⟩ := g
  have hlen := vw_len g1
  obtain ⟨y, hy⟩ := get_ex (l := hs) (k := k) (by omega)
  obtain ⟨n, hn⟩ := get_ex hk
  obtain ⟨-, -, -, r, hr⟩ := g1.2.2.2.2 k y n hy hn
  exact q_vat g1 hy (h y n r hn hr)
theorem qOk_lf {i : Nat} (hq : qOk nd m) (hi : i < (lfI nd m).length) : nF (lfD nd m i) < 2 ∧ (tkOk (lfD nd m i) ∨ tlOk (lfD nd m i)) := by
  have hin := lfI_lt (List.mem_of_getElem? (gq_get hi))
  exact ((hq _ hin.1).1 hin.2).2
theorem q_readSegment {Q : cS → Prop} {n A : Nat} {ds : List Nat} {L : List Dc} (gr : rdr S ρ rd w0 w1 wr mo fo ro pl ra gi mk fs rw) (g : gQy S ρ dp 17 17 q m nd) (hq : qOk nd m) (hl : (lfI nd m).length ≤ 24) (gS : gSg S ρ dp A n ds L) (hW : tkW L) (h : ∀ T, fk S T ρ ρ [80, 18, 22, 23, 24, 25] → (∀ i, i < (lfI nd m).length → ∀ j, j < L.length → cI T (mk i) j = nI (mkA L (lfD nd m i) j) ∧ cI T (fs i) j = nI (fsA L (lfD nd m i) j)) → Q T) : k_X7_readSegment Q dp rd q A S := by
  have hK : L.length ≤ 100 := gS.2.2.2.2.2.1
  unfold k_X7_readSegment k_X7_readSegment_2L
  refine lfp_cnt (lfI nd m).length (fun k y => ∃ S', fk S S' ρ ρ [80, 18, 22, 23, 24, 25] ∧ (∀ i, i < k → ∀ j, j < L.length → cI S' (mk i) j = nI (mkA L (lfD nd m i) j) ∧ cI S' (fs i) j = nI (fsA L (lfD nd m i) j)) ∧ y = (rd, q, A, nI k, S')) ?_ ⟨S, fk_rf, fun i hi => absurd hi (Nat.not_lt_zero i), rfl⟩
  rintro P k _ hk ⟨S', f', hb, rfl⟩ ih
  show k_X7_readSegment_2 Q dp _ rd q A (nI k) S'
  have gr' := rdr_s f'.1 (by decide) (by decide) gr
  have g' : gQy S' ρ dp 17 17 q m nd := gQy_fr f'.1 (by decide) (by decide) (fun _ _ e => e) g
  have gS' := gSg_fr f' (by decide) gS
  obtain ⟨ll, ls, lm, l1, l2, l3, l4, l5⟩ := gQ_leaf g'
  unfold k_X7_readSegment_2
  refine ⟨g'.1, ll, l1, l2.1, q_lsize l2 ?_⟩
  rw [l3]
  refine pk_le (lfI nd m).length k (fun z => ?_) (fun z => pk_le 24 k (fun z2 => absurd z2 (by omega)) (fun z2 => ?_))
  · obtain rfl : k = (lfI nd m).length := by omega
    exact h S' f' hb
  obtain ⟨p, hp, np⟩ := l5 k z
  obtain ⟨hf, ho⟩ := qOk_lf hq z
  have clk : (nI k).toNatClampNeg = k := nI_clamp (by omega)
  obtain ⟨r1, ⟨m1, m2, m3, m4, m5, m6⟩, ⟨o1, o2, o3, o4, o5, o6⟩⟩ : cA S' rd 7 ∧ mtT S' ρ rd 225 mo mk 24 22 ∧ mtT S' ρ rd 226 fo fs 24 23 := ⟨gr'.1, gr'.2.2.2.1, gr'.2.2.2.2.1⟩
  obtain ⟨a1, a2, a3, a4⟩ := m5 k z2
  obtain ⟨c1, c2, c3, c4⟩ := o5 k z2
  have om : ∀ i, i < k → ¬ mk i = mk k := fun i hi e => by have := m6 i k (by omega) z2 e; omega
  have of : ∀ i, i < k → ¬ fs i = fs k := fun i hi e => by have := o6 i k (by omega) z2 e; omega
  have mf : ∀ i j, i < 24 → j < 24 → ¬ mk i = fs j := fun i j hi hj e => absurd (show (22 : Nat) = 23 by rw [← (m5 i hi).2.2.2, e, (o5 j hj).2.2.2]) (by decide)
  -- other leaves keep theirs
  have keep : ∀ {S2 : cS} {F : Nat → Prop}, cSub S' S2 F → (∀ a, F a → ρ a ∈ [80, 18, 24, 25] ∨ a = mk k ∨ a = fs k) → ∀ i, i < k → cI S2 (mk i) = cI S' (mk i) ∧ cI S2 (fs i) = cI S' (fs i) := by
    intro S2 F s hF i hi
    constructor
    · refine sub_cI s (m5 i (by omega)).2.1 (fun w => ?_)
      rcases hF _ w with w | w | w
      · rw [(m5 i (by omega)).2.2.2] at w; exact absurd w (by decide)
      · exact om i hi w
      · exact mf i k (by omega) z2 w
    · refine sub_cI s (o5 i (by omega)).2.1 (fun w => ?_)
      rcases hF _ w with w | w | w
      · rw [(o5 i (by omega)).2.2.2] at w; exact absurd w (by decide)
      · exact mf k i z2 (by omega) w.symm
      · exact of i hi w
  have fin : ∀ {S2 : cS}, fk S S2 ρ ρ [80, 18, 22, 23, 24, 25] → (∀ i, i < k → cI S2 (mk i) = cI S' (mk i) ∧ cI S2 (fs i) = cI S' (fs i)) → (∀ j, j < L.length → cI S2 (mk k) j = nI (mkA L (lfD nd m k) j) ∧ cI S2 (fs k) j = nI (fsA L (lfD nd m k) j)) → k_X7_readSegment_93 Q dp (fun b0 b1 b2 b3 S => P (b0, b1, b2, b3, S)) rd q A (nI k) S2 := by
    intro S2 f2 h1 h2
    unfold k_X7_readSegment_93
    rintro _ rfl
    rw [nI_add]
    refine ih _ z ⟨S2, f2, fun i hi j hj => ?_, rfl⟩
    by_cases c : i = k
    · subst c; exact h2 j hj
    · rw [(h1 i (by omega)).1, (h1 i (by omega)).2]; exact hb i (by omega) j hj
  refine ⟨g'.1, ll, l1, l2.1, q_lget l2 hp ⟨np.1, np.1, q_isCounted np (w_b0 (decide (nK (lfD nd m k) ≤ 2)) (fun e => ?_) (fun e => ?_))⟩⟩
  · have nk : ¬ nK (lfD nd m k) ≤ 2 := of_decide_eq_false e
    have htl : tlOk (lfD nd m k) := ho.resolve_left (fun w => nk w.1)
    refine ⟨r1, mo, m1, cX_mk m2 m3 (by decide) z2 rfl, mk k, by rw [clk]; exact a1, q_readTold np htl hf gS' hW a2 a3 a4 (fun S2 s2 h2 => ?_)⟩
    have Fs : ∀ a, (ρ a = 80 ∨ ρ a = 18 ∨ a = mk k) → ρ a ∈ [80, 18, 24, 25] ∨ a = mk k ∨ a = fs k := fun a w => by
      rcases w with w | w | w
      · exact Or.inl (by rw [w]; decide)
      · exact Or.inl (by rw [w]; decide)
      · exact Or.inr (Or.inl w)
    have f2 : fk S' S2 ρ ρ [80, 18, 22, 23, 24, 25] := fF_fk s2 (fun a _ w => by
      rcases w with w | w | w
      · rw [w]; decide
      · rw [w]; decide
      · rw [w, a4]; decide)
    obtain ⟨v1, ⟨x1, x2, x3, x4, x5, x6⟩, ⟨y1, y2, y3, y4, y5, y6⟩⟩ : cA S2 rd 7 ∧ mtT S2 ρ rd 225 mo mk 24 22 ∧ mtT S2 ρ rd 226 fo fs 24 23 := by
      have gr2 := rdr_s f2.1 (by decide) (by decide) gr'
      exact ⟨gr2.1, gr2.2.2.2.1, gr2.2.2.2.2.1⟩
    have cl0 : (nI 0).toNatClampNeg = 0 := nI_clamp (by decide)
    have cl100 : (nI 100).toNatClampNeg = 100 := nI_clamp (by decide)
    refine ⟨v1, mo, x1, cX_mk x2 x3 (by decide) z2 rfl, mk k, by rw [clk]; exact (x5 k z2).1, v1, fo, y1, cX_mk y2 y3 (by decide) z2 rfl, fs k, by rw [clk]; exact (y5 k z2).1, ⟨(x5 k z2).2.1, (y5 k z2).2.1, by decide, by decide, by decide, ?_, ?_, fun w => absurd w (by decide), fun w => absurd w (by decide)⟩, fun S13 e13 => ?_⟩
    · rw [cl0, cl100, (x5 k z2).2.2.1]; decide
    · rw [cl0, cl100, (y5 k z2).2.2.1]; decide
    rw [cl0, cl100] at e13
    have s13 : cSub S2 S13 (fun a => a = fs k) := e13 ▸ sub_CpI rfl
    have cp : ∀ j, j < 100 → cI S13 (fs k) j = cI S2 (mk k) j := fun j hj => by
      rw [e13]
      show upR (cI S2) (fs k) (va_cpy (cI S2 (mk k)) (cI S2 (fs k)) 0 0 100) (fs k) j = _
      rw [upR_s]
      unfold va_cpy
      rw [if_pos (by omega), Nat.sub_zero, Nat.zero_add]
    have mk13 : cI S13 (mk k) = cI S2 (mk k) := sub_cI s13 (x5 k z2).2.1 (mf k k z2 z2)
    refine fin (fk_s f' (fk_s f2 (fk_up (fk_of s13 (M := [23]) (fun a _ w => by rw [w, c4]; decide) (by decide)) (by decide)))) (fun i hi => ?_) (fun j hj => ?_)
    · have k1 := keep s2.1 Fs i hi
      constructor
      · rw [sub_cI s13 (x5 i (by omega)).2.1 (mf i k (by omega) z2)]; exact k1.1
      · rw [sub_cI s13 (y5 i (by omega)).2.1 (of i hi)]; exact k1.2
    · have e1 : mkA L (lfD nd m k) j = tdK (tdI (lfD nd m k)) (tlD L (nF (lfD nd m k)) j) := by unfold mkA; rw [if_neg nk]
      have e2 : fsA L (lfD nd m k) j = tdK (tdI (lfD nd m k)) (tlD L (nF (lfD nd m k)) j) := by unfold fsA; rw [if_neg nk]
      rw [mk13, cp j (by omega), e1, e2]
      exact ⟨h2 j hj, h2 j hj⟩
  · have nk : nK (lfD nd m k) ≤ 2 := of_decide_eq_true e
    have htk : tkOk (lfD nd m k) := ho.resolve_right (fun w => by have := w.1; omega)
    refine ⟨r1, mo, m1, cX_mk m2 m3 (by decide) z2 rfl, mk k, by rw [clk]; exact a1, r1, fo, o1, cX_mk o2 o3 (by decide) z2 rfl, fs k, by rw [clk]; exact c1, r1, q_readCounted gr' np htk hf gS' a2 a3 a4 c2 c3 c4 (fun S2 s2 h2 => ?_)⟩
    have f2 : fk S' S2 ρ ρ [80, 18, 22, 23, 24, 25] := fF_fk s2 (fun a _ w => by
      rcases w with w | w | w | w | w
      · rw [w]; decide
      · rw [w]; decide
      · rw [w]; decide
      · rw [w, a4]; decide
      · rw [w, c4]; decide)
    refine fin (fk_s f' f2) (keep s2.1 (fun a w => ?_)) (fun j hj => ?_)
    · rcases w with w | w | w | w | w
      · exact Or.inl (by rw [w]; decide)
      · exact Or.inl (by rw [w]; decide)
      · exact Or.inl (by rw [w]; decide)
      · exact Or.inr (Or.inl w)
      · exact Or.inr (Or.inr w)
    · have e1 : mkA L (lfD nd m k) j = cpN (lfD nd m k) (mkC L (lfD nd m k) j) := by unfold mkA; rw [if_pos nk]
      have e2 : fsA L (lfD nd m k) j = mkC L (lfD nd m k) j 0 := by unfold fsA; rw [if_pos nk]
      rw [e1, e2]
      exact h2 j hj
/-- how many live documents have a token -/
def hvC (sg : Nat → List Dc) (lv : Nat → Nat → Bool) (fl : Nat) (c : Int64) (n : Nat) : Nat := cntB (fun k => !(mF (sg n) fl c k == 0) && (decide (k < (sg n).length) && lv n k)) 100
def hvN (sg : Nat → List Dc) (lv : Nat → Nat → Bool) (ids : List Nat) (fl : Nat) (c : Int64) : Nat := sumL (hvC sg lv fl c) ids
/-- a sum of the first n -/
def smN (f : Nat → Nat) : Nat → Nat
  | 0 => 0
  | n + 1 => smN f n + f n
/-- how rare a leaf's tokens are together -/
def rrN (sg : Nat → List Dc) (lv : Nat → Nat → Bool) (ids : List Nat) (d : Nd) : Nat := smN (fun t => rarN (sumL (fun n => cntB (lv n) (sg n).length) ids) (hvN sg lv ids (nF d) (tkC d t))) (nT d).length
theorem sumL_take {f : Nat → Nat} {l : List Nat} {k n : Nat} (h : l[k]? = some n) : sumL f (l.take (k + 1)) = sumL f (l.take k) + f n := by
  rw [List.take_add_one, h, sumL_app]
  rfl
theorem hvC_0 {lv : Nat → Nat → Bool} {fl n : Nat} {c : Int64} (h : pstOf (tlD (sg n) fl) c (sg n).length = []) : hvC sg lv fl c n = 0 := by
  unfold hvC
  have : ∀ N, cntB (fun k => !(mF (sg n) fl c k == 0) && (decide (k < (sg n).length) && lv n k)) N = 0 := fun N => by
    induction N with
    | zero => rfl
    | succ N ih => rw [cntB, ih, mF_none h N]; rfl
  exact this 100
theorem q_readCount {Q : Int32 → cS → Prop} {fl : Nat} {c : Int64} (g : rSt S ρ dp so sd sg made V ids lv rd w0 w1 wr mo fo ro pl ra gi mk fs rw q m nd) (hf : fl < 2) (h : ∀ T, fk S T ρ ρ [80, 24] → Q (nI (hvN sg lv ids fl c)) T) : k_X7_readCount Q dp rd V (nI fl) c S := by
  unfold k_X7_readCount k_X7_readCount_6L
  refine lfp_cnt ids.length (fun k y => ∃ S', fk S S' ρ ρ [80, 24] ∧ y = (rd, V, nI fl, c, nI (sumL (hvC sg lv fl c) (ids.take k)), nI k, S')) ?_ ⟨S, fk_rf, rfl⟩
  rintro P k _ hk ⟨S', f', rfl⟩ ih
  show k_X7_readCount_6 Q dp _ rd V (nI fl) c (nI (sumL (hvC sg lv fl c) (ids.take k))) (nI k) S'
  obtain ⟨gs, hid, gv, gr, gq⟩ := rSt_fk f' (by decide) g
  have i8 : ids.length < 8000 := by
    obtain ⟨hl, mm, hs, g1, -⟩ := gv
    exact (vw_len g1).2
  have fin : ∀ {S2 : cS} {v : Nat}, fk S S2 ρ ρ [80, 24] → k < ids.length → v = sumL (hvC sg lv fl c) (ids.take (k + 1)) → k_X7_readCount_86 Q dp (fun b0 b1 b2 b3 b4 b5 S => P (b0, b1, b2, b3, b4, b5, S)) rd V (nI fl) c (nI v) (nI k) S2 := by
    intro S2 v f2 hk2 hv
    unfold k_X7_readCount_86
    rintro _ rfl
    rw [nI_add, hv]
    exact ih _ hk2 ⟨S2, f2, rfl⟩
  unfold k_X7_readCount_6
  refine ⟨(g_vA gv).1, g_vsize gv (pk_le ids.length k (fun z => ?_) (fun z => ⟨(g_vA gv).1, q_vatG gv z (fun y n r hn ho => ⟨fun w => absurd w (by simp), fun b hb => ?_⟩)⟩))⟩
  · obtain rfl : k = ids.length := by omega
    rw [List.take_length]
    exact h S' f'
  obtain rfl := Option.some.inj hb
  have gS := gs n (hid n (List.mem_of_getElem? hn))
  have hK : (sg n).length ≤ 100 := gS.2.2.2.2.2.1
  refine ⟨ho.1, so n, ho.2.1, gS.1.1, q_postingsOf gS hf (fun e => ⟨fun _ => ?_, fun b hb => absurd hb (by simp)⟩) (fun p p1 p2 p3 p4 => ⟨fun w => absurd w (by simp), fun b hb => ?_⟩)⟩
  · unfold k_X7_readCount_42
    refine ⟨fun w => absurd w (by simp), fun b hb => ⟨fun _ => fin f' z ?_, fun b hb => absurd hb (by simp)⟩⟩
    rw [sumL_take hn, hvC_0 e, Nat.add_zero]
  · obtain rfl := Option.some.inj hb
    unfold k_X7_readCount_42
    refine ⟨fun w => absurd w (by simp), fun b hb => ⟨fun w => absurd w (by simp), fun b2 hb2 => ?_⟩⟩
    obtain rfl := Option.some.inj hb
    obtain rfl := Option.some.inj hb2
    obtain ⟨m1, m2, m3, m4, m5, m6⟩ := gr.2.2.2.2.2.1
    obtain ⟨a1, a2, a3, a4⟩ := m5 0 (by decide)
    have cl0 : (nI 0).toNatClampNeg = 0 := nI_clamp (by decide)
    refine ⟨gr.1, ro, m1, cX_mk m2 m3 (by decide) (show 0 < 6 by decide) rfl, rw 0, by rw [cl0]; exact a1, q_fill a2 a3 (by decide) (fun S1 s1 h1 => ?_)⟩
    have f1 : fk S' S1 ρ ρ [80, 24] := fk_up (fk_of s1 (M := [24]) (fun a _ w => by rw [w, a4]; decide) (by decide)) (by decide)
    obtain ⟨gs1, -, gv1, gr1, gq1⟩ := rSt_fk (fk_s f' f1) (by decide) g
    have gS1 := gs1 n (hid n (List.mem_of_getElem? hn))
    obtain ⟨x1, x2, x3, x4, x5, x6⟩ := gr1.2.2.2.2.2.1
    have np : ¬ p = rw 0 := fun e => absurd (show (80 : Nat) = 24 by rw [← p4, e, a4]) (by decide)
    have p1' : pB S1 p (encN (nmN 0 (pstOf (tlD (sg n) fl) c (sg n).length))) := by
      obtain ⟨q1, q2, q3, bb, q4, q5, q6, q7⟩ := p1
      have nb : ¬ bb = rw 0 := fun e => by
        have := cA_ne q5 a2 (by decide)
        exact this e
      exact ⟨sub_A1 s1 q1, (sub_ci s1 q1 np).trans q2, q3, bb, (sub_cr s1 q1 np).trans q4, sub_A1 s1 q5, (sub_cn s1 q5).trans q6, by rw [sub_cI s1 q5 nb]; exact q7⟩
    refine ⟨gr1.1, ro, x1, cX_mk x2 x3 (by decide) (show 0 < 6 by decide) rfl, rw 0, by rw [cl0]; exact (x5 0 (by decide)).1, p1'.1, q_spreadS (R := fun _ => 0) hK p1' ((sub_ci s1 p1.1 np).trans p2) p3 (x5 0 (by decide)).2.1 (x5 0 (by decide)).2.2.1 h1 (fun S2 s2 h2 => ?_)⟩
    have f2 : fk S1 S2 ρ ρ [80, 24] := fF_fk (fF_Sp s2 (by rw [a4]; decide)) (fun a _ w => by
      rcases w with w | w
      · rw [w, p4]; decide
      · rw [w, a4]; decide)
    obtain ⟨gs2, -, gv2, gr2, gq2⟩ := rSt_fk (fk_s f' (fk_s f1 f2)) (by decide) g
    obtain ⟨y1, y2, y3, y4, y5, y6⟩ := gr2.2.2.2.2.2.1
    have ho2 : hoT S2 y (so n) r (sg n).length (lv n) := by
      have t1 : ∀ {z k}, cA S' z k → (k = 2 ∨ k = 16) → ¬ z = rw 0 := fun hz hk e => by
        have := cA_ne hz a2 (by omega)
        exact this e
      have hyA := ho.1
      have hrA := ho.2.2.2.1
      have o1 := hoT_sub s1 ho (t1 hyA (Or.inl rfl)) (t1 hrA (Or.inr rfl))
      have t2 : ∀ {z k}, cA S' z k → (k = 2 ∨ k = 16) → ¬ (z = p ∨ z = rw 0) := fun hz hk e => by
        rcases e with e | e
        · exact absurd e (cA_ne hz p1.1 (by omega))
        · exact t1 hz hk e
      exact hoT_sub s2.1 o1 (t2 hyA (Or.inl rfl)) (t2 hrA (Or.inr rfl))
    refine ⟨gr2.1, ro, y1, cX_mk y2 y3 (by decide) (show 0 < 6 by decide) rfl, rw 0, by rw [cl0]; exact (y5 0 (by decide)).1, ho2.1, q_liveIn (R := fun k => mF (sg n) fl c k) ho2 (y5 0 (by decide)).2.1 (y5 0 (by decide)).2.2.1 (by decide) (fun k hk => ⟨?_, ?_⟩) ?_⟩
    · rw [h2 k hk, Nat.zero_or]
    · exact Nat.lt_trans (mF_lt gS.2.2.2.2.1) (by decide)
    · rintro _ rfl
      rw [nI_add]
      exact fin (fk_s f' (fk_s f1 f2)) z (by rw [sumL_take hn]; rfl)
end RS
