/-! the class: marked places, passages of a document; scanned counts -/
/-- a leaf's places that are marked for passages -/
def spF (nd : Nat → Nd) (m : Nat) (mA : Nat → Nat) (fl i : Nat) : Option Nat := if i < (lfI nd m).length ∧ (qsS nd m).2.2 (lfN nd m i) = false ∧ nF (lfD nd m i) = fl ∧ mA i ≠ 0 then some (mA i) else none
def mkF (sp : Nat → Option Nat) : Nat → Nat
  | 0 => 0
  | k + 1 => mkF sp k ||| (sp k).getD 0
/-- the passages of a document -/
noncomputable def psD (nd : Nat → Nd) (m w0 w1 : Nat) (rr : Nat → Nat) (e : Dc) (fl : Nat) : List Nat := if (evS nd (gvF nd m w0 w1 rr (fun i => mkO e (lfD nd m i))) m 0).isSome = true then psL (spF nd m (fun i => mkO e (lfD nd m i)) fl) (mkF (spF nd m (fun i => mkO e (lfD nd m i)) fl) (lfI nd m).length) else []
theorem mkF_lt {sp : Nat → Option Nat} (h : ∀ i, (sp i).getD 0 < 2 ^ 20) : ∀ k, mkF sp k < 2 ^ 20
  | 0 => by rw [mkF]; decide
  | k + 1 => by rw [mkF]; exact Nat.or_lt_two_pow (mkF_lt h k) (h k)
section RP
variable {S T U : cS} {ρ : Nat → Nat} {M : List Nat} {dp made V rd w0 w1 wr mo fo ro pl ra gi q m : Nat} {so : Nat → Nat} {sd : Nat → List Nat} {sg : Nat → List Dc} {ids : List Nat} {lv : Nat → Nat → Bool} {mk fs rw : Nat → Nat} {nd : Nat → Nd} {rr : Nat → Nat}
variable {fd hk hr cq cs ct cm st sp : Nat} {cmr : Nat → Nat}
theorem q_readSpots {Q : Int32 → cS → Prop} {fl : Nat} {mA : Nat → Nat} (gk : fdK S ρ fd rd hk hr cq cs ct cm st sp cmr) (gr : rdr S ρ rd w0 w1 wr mo fo ro pl ra gi mk fs rw) (g : gQy S ρ dp 17 17 q m nd) (hq : qOk nd m) (hl : (lfI nd m).length ≤ 24) (h1 : (qsS nd m).1 = 1) (hm : m < 100) (hw : w0 ≤ 9 ∧ w1 ≤ 9) (hrr : ∀ i, rr i ≤ 102) (hra : ∀ i, i < (lfI nd m).length → cI S ra i = nI (rr i)) (hmk : ∀ i, i < (lfI nd m).length → cI S (mk i) 0 = nI (mA i) ∧ mA i < 2 ^ 20) (hfl : fl < 2) (h0 : evS nd (gvF nd m w0 w1 rr mA) m 0 = none → ∀ T, fk S T ρ ρ [18, 27, 35] → Q (nI 0) T) (hs : evS nd (gvF nd m w0 w1 rr mA) m 0 ≠ none → ∀ T, fk S T ρ ρ [18, 27, 35] → (∀ i, i < 24 → cI T sp i = sI (spF nd m mA fl i)) → Q (nI (mkF (spF nd m mA fl) (lfI nd m).length)) T) : k_X1_readSpots Q dp fd q (nI fl) S := by
  obtain ⟨fA, fρ, fr32, hkR, hrR, cqR, csR, ctR, cmR, stR, spR'⟩ := id gk
  obtain ⟨p1, p2, p3, p4⟩ := id spR'
  unfold k_X1_readSpots
  refine ⟨fA, sp, p1, q_fill p2 p3 (by decide) (fun S2 s2 h2 => ?_)⟩
  have f2 : fk S S2 ρ ρ [35] := fk_of s2 (fun a _ w => by rw [w, p4]; decide) (by decide)
  have n35 : ρ fd ∉ [35] := by rw [fρ]; decide
  have gk2 := fdK_fk f2 (by decide) (fun z => fr_cr f2.1 fA n35) gk
  have gr2 := rdr_s f2.1 (by decide) (by decide) gr
  have g2 : gQy S2 ρ dp 17 17 q m nd := gQy_fr f2.1 (by decide) (by decide) (fun _ _ e => e) g
  have mk2 : ∀ i, i < (lfI nd m).length → cI S2 (mk i) 0 = nI (mA i) ∧ mA i < 2 ^ 20 := fun i hi => by
    have a1 := gr.2.2.2.1.2.2.2.2.1 i (by omega)
    rw [sub_cI s2 a1.2.1 (fun w => absurd (show (22 : Nat) = 35 by rw [← a1.2.2.2, w, p4]) (by decide))]; exact hmk i hi
  have ra2 : ∀ i, i < (lfI nd m).length → cI S2 ra i = nI (rr i) := fun i hi => by
    have a1 := gr.2.2.2.2.2.2.2.1
    rw [sub_cI s2 a1.2.1 (fun w => absurd (show (26 : Nat) = 35 by rw [← a1.2.2.2, w, p4]) (by decide))]; exact hra i hi
  refine ⟨gk2.1, rd, gk2.2.2.1, gr2.1, q_valueAt (rr := rr) (mA := mA) gr2 g2 hq h1 hl (by decide) (by decide) hm hw hrr (by decide) mk2 ra2 (fun S4 f4 => ?_)⟩
  have f4' : fk S2 S4 ρ ρ [18, 27] := fr_fk f4 (by decide)
  have f04 : fk S S4 ρ ρ [18, 27, 35] := fk_s (fk_up f2 (by decide)) (fk_up f4' (by decide))
  have vb := vl_lt (mA := mA) hq h1 hl hw hrr
  refine ⟨fun e => ?_, fun e => h0 ((cIn_ne (by omega)).mp e) S4 f04⟩
  have hv : evS nd (gvF nd m w0 w1 rr mA) m 0 ≠ none := fun w => e ((cIn_ne (by omega)).mpr w)
  have sp4 : ∀ i, i < 24 → cI S4 sp i = sI none := fun i hi => by
    rw [sub_cI f4.1 (sub_A1 s2 p2) (by rw [p4]; decide)]; exact h2 i hi
  unfold k_X1_readSpots_28L
  refine lfp_cnt (lfI nd m).length (fun k y => ∃ S', fk S S' ρ ρ [18, 27, 35] ∧ (∀ i, i < 24 → cI S' sp i = sI (if i < k then spF nd m mA fl i else none)) ∧ y = (fd, q, nI fl, nI (mkF (spF nd m mA fl) k), nI k, S')) ?_ ⟨S4, f04, fun i hi => by rw [if_neg (Nat.not_lt_zero i)]; exact sp4 i hi, rfl⟩
  rintro P k _ hk' ⟨S', f', hsp, rfl⟩ ih
  show k_X1_readSpots_28 Q dp _ fd q (nI fl) (nI (mkF (spF nd m mA fl) k)) (nI k) S'
  have nfd : ρ fd ∉ [18, 27, 35] := by rw [fρ]; decide
  have gk' := fdK_fk f' (by decide) (fun z => fr_cr f'.1 fA nfd) gk
  have gr' := rdr_s f'.1 (by decide) (by decide) gr
  have g' : gQy S' ρ dp 17 17 q m nd := gQy_fr f'.1 (by decide) (by decide) (fun _ _ e => e) g
  obtain ⟨ll, ls, lm, l1, l2, l3, l4, l5⟩ := gQ_leaf g'
  obtain ⟨q1, q2, q3, q4⟩ := gk'.2.2.2.2.2.2.2.2.2.2
  have fA' := gk'.1
  have next : ∀ {S3 : cS} {v : Nat}, fk S S3 ρ ρ [18, 27, 35] → k < (lfI nd m).length → (∀ i, i < 24 → cI S3 sp i = sI (if i < k + 1 then spF nd m mA fl i else none)) → v = mkF (spF nd m mA fl) (k + 1) → k_X1_readSpots_112 Q dp (fun b0 b1 b2 b3 b4 S => P (b0, b1, b2, b3, b4, S)) fd q (nI fl) (nI v) (nI k) S3 := by
    intro S3 v f3 hk2 h3 hv3
    unfold k_X1_readSpots_112
    rintro _ rfl
    rw [nI_add, hv3]
    exact ih _ hk2 ⟨S3, f3, h3, rfl⟩
  unfold k_X1_readSpots_28
  refine ⟨g'.1, ll, l1, l2.1, q_lsize l2 ?_⟩
  rw [l3]
  refine pk_le (lfI nd m).length k (fun z => ?_) (fun z => ⟨fA', sp, q1, q2, ?_⟩)
  · obtain rfl : k = (lfI nd m).length := by omega
    refine hs hv S' f' (fun i hi => ?_)
    rw [hsp i hi]
    by_cases c : i < (lfI nd m).length
    · rw [if_pos c]
    · rw [if_neg c]
      unfold spF
      rw [if_neg (fun w => c w.1)]
  rw [q3]
  refine pk_le 24 k (fun z2 => absurd z2 (by omega)) (fun z2 => ?_)
  obtain ⟨p, hp, np⟩ := l5 k z
  have np2 := np.2.2.1
  refine ⟨g'.1, ll, l1, l2.1, q_lget l2 hp ⟨np.1, fA', rd, gk'.2.2.1, gr'.1, q_markAt gr' z2 (by decide) ⟨np.1, ?_⟩⟩⟩
  obtain ⟨k1, k2⟩ := hmk k z
  have em : cI S' (mk k) 0 = nI (mA k) := by
    have a1 := gr.2.2.2.1.2.2.2.2.1 k z2
    rw [sub_cI f'.1.1 a1.2.1 (by rw [a1.2.2.2]; decide)]; exact k1
  have same : spF nd m mA fl k = none → (∀ i, i < 24 → cI S' sp i = sI (if i < k + 1 then spF nd m mA fl i else none)) ∧ mkF (spF nd m mA fl) k = mkF (spF nd m mA fl) (k + 1) := fun e2 => by
    refine ⟨fun i hi => ?_, by rw [mkF, e2]; exact (Nat.or_zero _).symm⟩
    rw [hsp i hi]
    by_cases c : i = k
    · subst c; rw [if_neg (Nat.lt_irrefl i), if_pos (Nat.lt_succ_self i), e2]
    · by_cases c2 : i < k
      · rw [if_pos c2, if_pos (by omega)]
      · rw [if_neg c2, if_neg (by omega)]
  have hf2 := (qOk_lf hq z).1
  rw [np2.2.2.2.2.2, np2.2.1, em]
  refine w_bn ((qsS nd m).2.2 (lfN nd m k)) (fun c => ?_) (fun c => ⟨np.1, w_ne (nF (lfD nd m k)) fl (fun c2 => ?_) (fun c2 => w_z (mA k) (fun c3 => ?_) (fun c3 => ⟨fA', sp, q1, cX_mk q2 q3 (by decide) z2 rfl, fun S14 e14 => ?_⟩))⟩)
  · have e2 : spF nd m mA fl k = none := by unfold spF; rw [if_neg (fun w => by rw [c] at w; exact absurd w.2.1 (by decide))]
    exact next f' z (same e2).1 (same e2).2
  · have e2 : spF nd m mA fl k = none := by unfold spF; rw [if_neg (fun w => c2 w.2.2.1)]
    exact next f' z (same e2).1 (same e2).2
  · have e2 : spF nd m mA fl k = none := by unfold spF; rw [if_neg (fun w => w.2.2.2 c3)]
    exact next f' z (same e2).1 (same e2).2
  · have e2 : spF nd m mA fl k = some (mA k) := by unfold spF; rw [if_pos ⟨z, c, c2, by omega⟩]
    rintro _ rfl
    rw [nI_clamp (show k < 2 ^ 31 by omega)] at e14
    rw [nI_or]
    have s14 : cSub S' S14 (fun a => a = sp) := e14 ▸ sub_SI rfl
    refine next (fk_s f' (fk_up (fk_of s14 (M := [35]) (fun a _ w => by rw [w, p4]; decide) (by decide)) (by decide))) z (fun i hi => ?_) (by rw [mkF, e2]; rfl)
    by_cases c4 : i = k
    · subst c4; rw [if_pos (Nat.lt_succ_self i), e2]; exact heI_SI_s e14
    · refine heI_SI_k e14 c4 ?_
      rw [hsp i hi]
      by_cases c5 : i < k
      · rw [if_pos c5, if_pos (by omega)]
      · rw [if_neg c5, if_neg (by omega)]
theorem psG_len {sp : Nat → Option Nat} {mk : Nat} : ∀ {r c : Nat}, (psG sp mk r c).length = 0 ∨ (c ≤ (psG sp mk r c).length ∧ (psG sp mk r c).length < c + r)
  | 0, c => Or.inl rfl
  | r + 1, c => by
    rw [psG]
    cases e : fpN sp mk c [] with
    | some l =>
      have := fpN_len e
      replace this : l.length = 0 + c := this
      exact Or.inr ⟨by show c ≤ l.length; omega, by show l.length < _; omega⟩
    | none =>
      show (psG sp mk r (c + 1)).length = 0 ∨ _
      rcases psG_len (sp := sp) (mk := mk) (r := r) (c := c + 1) with h | h
      · exact Or.inl h
      · exact Or.inr ⟨by show c ≤ (psG sp mk r (c + 1)).length; omega, by show (psG sp mk r (c + 1)).length < _; omega⟩
theorem q_readPassages {Q : Int32 → cS → Prop} {D fl : Nat} {e : Dc} (gk : fdK S ρ fd rd hk hr cq cs ct cm st sp cmr) (gr : rdr S ρ rd w0 w1 wr mo fo ro pl ra gi mk fs rw) (g : gQy S ρ dp 17 17 q m nd) (hq : qOk nd m) (hl : (lfI nd m).length ≤ 24) (h1 : (qsS nd m).1 = 1) (hm : m < 100) (hw : w0 ≤ 9 ∧ w1 ≤ 9) (hrr : ∀ i, rr i ≤ 102) (hra : ∀ i, i < 24 → cI S ra i = nI (rr i)) (hfl : fl < 2) (gF : gFz S ρ D e) (hW : ∀ (fl : Nat) (x : Int64 × Nat), x ∈ dT e fl → ∃ w, w < 37 ^ 12 ∧ x.1 = lN w) (h : ∀ T, fk S T ρ ρ [18, 22, 25, 27, 34, 35] → (∀ i, i < (psD nd m w0 w1 rr e fl).length → cI T st i = nI ((psD nd m w0 w1 rr e fl).getD i 0)) → Q (nI (psD nd m w0 w1 rr e fl).length) T) : k_X1_readPassages Q dp fd (some D) q (nI fl) S := by
  unfold k_X1_readPassages
  refine ⟨fun w => absurd w (by simp), fun b hb => ?_⟩
  obtain rfl := Option.some.inj hb
  obtain ⟨mA, hmA⟩ : ∃ mA : Nat → Nat, mA = fun i => mkO e (lfD nd m i) := ⟨_, rfl⟩
  refine ⟨gk.1, rd, gk.2.2.1, gr.1, q_scanDocument gr g hq hl gF hW (fun S3 f3 h3 => ?_)⟩
  have n3 : ρ fd ∉ [18, 22, 25] := by rw [gk.2.1]; decide
  have gk3 := fdK_fk f3 (by decide) (fun z => fr_cr f3.1 gk.1 n3) gk
  have gr3 := rdr_s f3.1 (by decide) (by decide) gr
  have g3 : gQy S3 ρ dp 17 17 q m nd := gQy_fr f3.1 (by decide) (by decide) (fun _ _ e => e) g
  have ra3 : ∀ i, i < (lfI nd m).length → cI S3 ra i = nI (rr i) := fun i hi => by
    have a1 := gr.2.2.2.2.2.2.2.1
    rw [sub_cI f3.1.1 a1.2.1 (by rw [a1.2.2.2]; decide)]; exact hra i (by omega)
  have f3' : fk S S3 ρ ρ [18, 22, 25, 27, 34, 35] := fk_up f3 (by decide)
  have none0 : psD nd m w0 w1 rr e fl = [] → ∀ T, fk S T ρ ρ [18, 22, 25, 27, 34, 35] → Q (nI 0) T := fun e0 T fT => by
    have := h T fT
    rw [e0] at this
    exact this (fun i hi => absurd hi (Nat.not_lt_zero i))
  refine ⟨gk3.1, q_readSpots (rr := rr) (mA := mA) gk3 gr3 g3 hq hl h1 hm hw hrr ra3 (fun i hi => by rw [hmA]; exact h3 i hi) hfl (fun ev S4 f4 => ?_) (fun ev S4 f4 hsp => ?_)⟩
  · unfold k_X1_readPassages_26L
    refine fun P hP => hP _ ?_
    show k_X1_readPassages_26 Q dp _ fd (nI 0) (nI 1) S4
    unfold k_X1_readPassages_26
    refine ⟨fun _ => none0 ?_ S4 (fk_s f3' (fk_up f4 (by decide))), fun w => absurd rfl w⟩
    unfold psD
    rw [← hmA, ev]; rfl
  · have hsome : (evS nd (gvF nd m w0 w1 rr mA) m 0).isSome = true := by
      cases e2 : evS nd (gvF nd m w0 w1 rr mA) m 0 with
      | none => exact absurd e2 ev
      | some v => rfl
    obtain ⟨sp', hsp'⟩ : ∃ sp', sp' = spF nd m mA fl := ⟨_, rfl⟩
    obtain ⟨mk', hmk'⟩ : ∃ mk', mk' = mkF sp' (lfI nd m).length := ⟨_, rfl⟩
    have eD : psD nd m w0 w1 rr e fl = psL sp' mk' := by
      unfold psD
      rw [← hmA, if_pos hsome, hmk', hsp']
    rw [← hsp'] at hsp ⊢
    rw [← hmk']
    rw [eD] at h none0
    have sb : ∀ i, (sp' i).getD 0 < 2 ^ 20 := fun i => by
      rw [hsp']
      unfold spF
      split
      · rename_i w
        have := (h3 i w.1).2
        rw [hmA]; exact this
      · exact Nat.two_pow_pos 20
    have mb := mkF_lt sb (lfI nd m).length
    rw [← hmk'] at mb
    have n4 : ρ fd ∉ [18, 27, 35] := by rw [gk.2.1]; decide
    have gk4 := fdK_fk f4 (by decide) (fun z => fr_cr f4.1 gk3.1 n4) gk3
    have f04 : fk S S4 ρ ρ [18, 22, 25, 27, 34, 35] := fk_s f3' (fk_up f4 (by decide))
    obtain ⟨fA, fρ, -, -, -, -, -, -, -, stR, spR'⟩ := gk4
    have nst : ¬ sp = st := fun w => absurd (show (35 : Nat) = 34 by rw [← spR'.2.2.2, w, stR.2.2.2]) (by decide)
    unfold k_X1_readPassages_26L
    refine lfp_cnt 4 (fun k y => ∃ S', cSub S4 S' (fun z => z = st) ∧ (mk' ≠ 0 → psL sp' mk' = psG sp' mk' (4 - k) (k + 1)) ∧ y = (fd, nI mk', nI (k + 1), S')) ?_ ⟨S4, sub_rf, fun hne => by unfold psL; rw [if_neg hne], rfl⟩
    rintro P k _ hk4 ⟨S', s', hL, rfl⟩ ih
    show k_X1_readPassages_26 Q dp _ fd (nI mk') (nI (k + 1)) S'
    have fT : ∀ {U : cS}, cSub S4 U (fun z => z = st) → fk S U ρ ρ [18, 22, 25, 27, 34, 35] := fun s => fk_s f04 (fk_up (fk_of s (M := [34]) (fun a _ w => by rw [w, stR.2.2.2]; decide) (by decide)) (by decide))
    unfold k_X1_readPassages_26
    refine w_z mk' (fun c => none0 (by unfold psL; rw [if_pos c]) S' (fT s')) (fun c => pk_lt 4 (k + 1) (fun z => ?_) (fun z => ?_))
    · obtain rfl : k = 4 := by omega
      refine none0 ?_ S' (fT s')
      rw [hL (by omega)]; rfl
    have A' := sub_A1 s' fA
    have r' : ∀ z, cr S' z fd = cr S4 z fd := fun z => sub_cr s' fA (cA_ne fA stR.2.1 (by decide))
    have cov := q_cov4 (S := S') (dp := dp) (so' := sp) (st' := st) (sp := sp') (mk := mk') (cnt := k + 1) (pre := []) (Q := fun r_7 S_7 => ((r_7 = 0 → ∀ x5_8 : Int32, x5_8 = nI (k + 1) + nI 1 → (fun b0 b1 b2 S => P (b0, b1, b2, S)) fd (nI mk') x5_8 S_7) ∧ (¬ r_7 = 0 → Q (nI (k + 1)) S_7))) (by show k + 1 ≤ 0 + 4; omega) ⟨Nat.zero_le _, by omega⟩ mb (sub_A1 s' spR'.2.1) ((sub_cn s' spR'.2.1).trans spR'.2.2.1) (fun i hi => ⟨by rw [sub_cI s' spR'.2.1 nst]; exact hsp i hi, sb i⟩) (sub_A1 s' stR.2.1) ((sub_cn s' stR.2.1).trans stR.2.2.1) nst (fun p hp => absurd hp List.not_mem_nil) (fun i hi => absurd hi (Nat.not_lt_zero i)) (fun T sT h1 h2 => ?_)
    · exact ⟨A', sp, (r' _).trans spR'.1, A', st, (r' _).trans stR.1, cov⟩
    · replace h2 : ∀ l, fpN sp' mk' (k + 1) [] = some l → ∀ i, i < k + 1 → cI T st i = nI (l.getD i 0) := h2
      show (bI (fpN sp' mk' (k + 1) []).isSome = 0 → _) ∧ (¬ bI (fpN sp' mk' (k + 1) []).isSome = 0 → _)
      cases e5 : fpN sp' mk' (k + 1) [] with
      | none =>
        have eG : psL sp' mk' = psG sp' mk' (4 - (k + 1)) (k + 1 + 1) := by rw [hL (by omega), show 4 - k = (4 - (k + 1)) + 1 by omega, psG, e5]
        refine ⟨fun _ => ?_, fun w => absurd rfl w⟩
        rintro _ rfl
        rw [nI_add]
        exact ih _ (by omega) ⟨T, sub_tr s' sT (fun _ _ z => z), fun _ => eG, rfl⟩
      | some l =>
        have eG : psL sp' mk' = l := by rw [hL (by omega), show 4 - k = (4 - (k + 1)) + 1 by omega, psG, e5]
        have ln := fpN_len e5
        replace ln : l.length = 0 + (k + 1) := ln
        refine ⟨fun w => absurd w (show ¬ bI true = 0 from by decide), fun _ => ?_⟩
        have hh := h T (fT (sub_tr s' sT (fun _ _ z => z)))
        rw [eG, ln, Nat.zero_add] at hh
        exact hh (fun i hi => h2 l e5 i hi)
theorem q_scannedCount {Q : Int32 → cS → Prop} (g : rSt S ρ dp so sd sg made V ids lv rd w0 w1 wr mo fo ro pl ra gi mk fs rw q m nd) (hq : qOk nd m) (hl : (lfI nd m).length ≤ 24) (h1 : (qsS nd m).1 = 1) (hm : m < 100) (hw : w0 ≤ 9 ∧ w1 ≤ 9) (hrr : ∀ i, rr i ≤ 102) (hra : ∀ i, i < 24 → cI S ra i = nI (rr i)) (hW : ∀ n, n ∈ ids → tkW (sg n)) (h : ∀ T, fk S T ρ ρ [18, 22, 25, 27] → Q (nI (mtL sg (fun n j => lv n j && (vlN nd m w0 w1 rr (sg n) j).isSome) ids).length) T) : k_X7_scannedCount Q dp rd V q S := by
  obtain ⟨f, hf⟩ : ∃ f : Nat → Nat → Bool, f = fun n j => lv n j && (vlN nd m w0 w1 rr (sg n) j).isSome := ⟨_, rfl⟩
  rw [← hf] at h
  unfold k_X7_scannedCount k_X7_scannedCount_5L
  refine lfp_cnt ids.length (fun k y => ∃ S', fk S S' ρ ρ [18, 22, 25, 27] ∧ y = (rd, V, q, nI (mtL sg f (ids.take k)).length, nI k, S')) ?_ ⟨S, fk_rf, rfl⟩
  rintro P k _ hk' ⟨S', f', rfl⟩ ih
  show k_X7_scannedCount_5 Q dp _ rd V q (nI (mtL sg f (ids.take k)).length) (nI k) S'
  have g' := rSt_fk f' (by decide) g
  obtain ⟨gs, hid, gv, gr, gq⟩ := id g'
  have i8 : ids.length < 8000 := (rSt_bd g').2.1
  unfold k_X7_scannedCount_5
  refine ⟨(g_vA gv).1, g_vsize gv (pk_le ids.length k (fun z => ?_) (fun z => ⟨(g_vA gv).1, q_vatT gv z (fun y n r hn ho ty tr => ⟨fun w => absurd w (by simp), fun b hb => ?_⟩)⟩))⟩
  · obtain rfl : k = ids.length := by omega
    rw [List.take_length]
    exact h S' f'
  obtain rfl := Option.some.inj hb
  have hnm := List.mem_of_getElem? hn
  have hK : (sg n).length ≤ 100 := (gs n (hid n hnm)).2.2.2.2.2.1
  unfold k_X7_scannedCount_25L
  refine lfp_cnt (sg n).length (fun j y' => ∃ S2, fk S' S2 ρ ρ [18, 22, 25, 27] ∧ y' = (rd, V, q, nI ((mtL sg f (ids.take k)).length + (fndJ (f n) n j).length), nI k, some y, nI j, S2)) ?_ ⟨S', fk_rf, rfl⟩
  rintro P2 j _ hj ⟨S2, f2, rfl⟩ ih2
  show k_X7_scannedCount_25 Q dp _ _ rd V q (nI ((mtL sg f (ids.take k)).length + (fndJ (f n) n j).length)) (nI k) (some y) (nI j) S2
  have f02 := fk_s f' f2
  have g2 := rSt_fk f02 (by decide) g
  obtain ⟨gs2, hid2, gv2, gr2, gq2⟩ := id g2
  have gS2 := gs2 n (hid n hnm)
  have ho2 : hoT S2 y (so n) r (sg n).length (lv n) := hoT_sub f2.1.1 ho (by rw [ty]; decide) (by rw [tr]; decide)
  have stop : ∀ {S3 : cS} {v : Nat}, fk S2 S3 ρ ρ [18, 22, 25, 27] → j < (sg n).length → v = (mtL sg f (ids.take k)).length + (fndJ (f n) n (j + 1)).length → k_X7_scannedCount_92 Q dp (fun b0 b1 b2 b3 b4 S => P (b0, b1, b2, b3, b4, S)) (fun b0 b1 b2 b3 b4 b5 b6 S => P2 (b0, b1, b2, b3, b4, b5, b6, S)) rd V q (nI v) (nI k) y (nI j) S3 := by
    intro S3 v f3 hj2 hv
    unfold k_X7_scannedCount_92
    rintro _ rfl
    rw [nI_add, hv]
    exact ih2 _ hj2 ⟨S3, fk_s f2 f3, rfl⟩
  unfold k_X7_scannedCount_25
  refine ⟨fun w => absurd w (by simp), fun b hb => ?_⟩
  obtain rfl := Option.some.inj hb
  refine ⟨ho2.1, so n, ho2.2.1, gS2.1.1, q_sgSize gS2.1 (pk_le (sg n).length j (fun z2 => ?_) (fun z2 => ⟨ho2.1, q_isLive ho2 (by omega) ?_⟩))⟩
  · obtain rfl : j = (sg n).length := by omega
    unfold k_X7_scannedCount_98
    rintro _ rfl
    rw [nI_add]
    refine ih _ z ⟨S2, f02, ?_⟩
    rw [mtL_take hn, List.length_append]
  rw [decide_eq_true z2, Bool.true_and]
  refine w_b0 (lv n j) (fun el => stop fk_rf z2 ?_) (fun el => ?_)
  · rw [fndJ, show f n j = false by rw [hf]; show (lv n j && _) = false; rw [el, Bool.false_and], if_neg (by decide), List.append_nil]
  obtain ⟨q1, q2, q3, ⟨dl, md, q4, q5⟩, q6⟩ := id gS2.1
  obtain ⟨D, hD⟩ := get_ex (l := sd n) (k := j) (by omega)
  obtain ⟨d, hd⟩ := get_ex (l := sg n) (k := j) z2
  have gF := gS2.2.2.2.1 j D d hD hd
  refine ⟨ho2.1, so n, ho2.2.1, q1, dl, q4, q5.1, q_lget q5 hD ⟨gF.1, gr2.1, q_scanDocument gr2 gq2 hq hl gF (fun fl x hx => hW n hnm d (List.mem_of_getElem? hd) fl x hx) (fun S3 f3 h3 => ?_)⟩⟩
  have g3 := rSt_fk (fk_s f02 (fk_up f3 (by decide))) (by decide) g
  obtain ⟨-, -, -, gr3, gq3⟩ := id g3
  have ra3 : ∀ i, i < (lfI nd m).length → cI S3 ra i = nI (rr i) := fun i hi => by
    have a1 := g.2.2.2.1.2.2.2.2.2.2.2.1
    have f03 := fk_s f02 (fk_up f3 (by decide))
    rw [sub_cI f03.1.1 a1.2.1 (by rw [a1.2.2.2]; decide)]; exact hra i (by omega)
  refine ⟨gr3.1, q_valueAt (rr := rr) (mA := fun i => mkO d (lfD nd m i)) gr3 gq3 hq h1 hl (by decide) (by decide) hm hw hrr (by decide) h3 ra3 (fun S5 f5 => ?_)⟩
  have f25 : fk S2 S5 ρ ρ [18, 22, 25, 27] := fk_s (fk_up f3 (by decide)) (fk_up (fr_fk f5 (by decide)) (by decide))
  have vb := vl_lt (mA := fun i => mkO d (lfD nd m i)) hq h1 hl hw hrr
  have ev : evS nd (gvF nd m w0 w1 rr (fun i => mkO d (lfD nd m i))) m 0 = vlN nd m w0 w1 rr (sg n) j := by
    unfold vlN
    congr 2
    funext i
    exact (mkA_O hd).symm
  rw [ev] at vb ⊢
  refine ⟨fun e2 => ?_, fun e2 => ?_⟩
  · unfold k_X7_scannedCount_90
    rintro _ rfl
    rw [nI_add]
    refine stop f25 z2 ?_
    have hs : (vlN nd m w0 w1 rr (sg n) j).isSome = true := by
      cases e3 : vlN nd m w0 w1 rr (sg n) j with
      | none => exact absurd ((cIn_ne (by omega)).mpr e3) e2
      | some v => rfl
    rw [fndJ, show f n j = true by rw [hf]; show (lv n j && (vlN nd m w0 w1 rr (sg n) j).isSome) = true; rw [el, hs]; rfl, if_pos rfl, List.length_append]
    rfl
  · unfold k_X7_scannedCount_90
    rintro _ rfl
    rw [nI_add]
    refine stop f25 z2 ?_
    rw [fndJ, show f n j = false by rw [hf]; show (_ && (vlN nd m w0 w1 rr (sg n) j).isSome) = false; rw [(cIn_ne (by omega)).mp e2, Bool.and_comm]; rfl, if_neg (by decide), List.append_nil, Nat.add_zero]
end RP
