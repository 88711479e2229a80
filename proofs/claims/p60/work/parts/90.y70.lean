/-! the class: texts are scanned -/
theorem tlD_at {L : List Dc} {fl j : Nat} {d : Dc} (h : L[j]? = some d) : tlD L fl j = dT d fl := by unfold tlD; rw [h]
theorem cnt_hv {lv : Nat → Bool} {g : Nat → Nat} {N : Nat} (hg : ∀ k, N ≤ k → g k = 0) : ∀ n : Nat, cntB (fun k => !(g k == 0) && (decide (k < N) && lv k)) n = cntB (fun j => lv j && !(g j == 0)) (min n N)
  | 0 => by rw [Nat.zero_min]; rfl
  | n + 1 => by
    rw [cntB, cnt_hv hg n]
    by_cases c : n < N
    · rw [show min (n + 1) N = min n N + 1 by omega, show min n N = n by omega, cntB]
      have : (!(g n == 0) && (decide (n < N) && lv n)) = (lv n && !(g n == 0)) := by rw [decide_eq_true c, Bool.true_and, Bool.and_comm]
      rw [this]
    · rw [show min (n + 1) N = min n N by omega, decide_eq_false c, Bool.false_and, Bool.and_false]
      rfl
theorem hvC_len {sg : Nat → List Dc} {lv : Nat → Nat → Bool} {fl n : Nat} {c : Int64} (h : (sg n).length ≤ 100) : hvC sg lv fl c n = cntB (fun j => lv n j && !(mF (sg n) fl c j == 0)) (sg n).length := by
  unfold hvC
  rw [cnt_hv (fun k hk => mF_out hk) 100, show min 100 (sg n).length = (sg n).length by omega]
theorem tdK_app {f : Int64 → Bool} {x : Int64 × Nat} : ∀ {l : List (Int64 × Nat)}, tdK f (l ++ [x]) = tdK f l ||| (if f x.1 = true then 2 ^ x.2 else 0)
  | [] => by
    show (_ ||| 0) = (0 ||| _)
    rw [Nat.or_zero, Nat.zero_or]
  | y :: l => by
    show (_ ||| tdK f (l ++ [x])) = ((_ ||| tdK f l) ||| _)
    rw [tdK_app, Nat.or_assoc]
theorem tdK_take {f : Int64 → Bool} {l : List (Int64 × Nat)} {k : Nat} {x : Int64 × Nat} (h : l[k]? = some x) : tdK f (l.take (k + 1)) = tdK f (l.take k) ||| (if f x.1 = true then 2 ^ x.2 else 0) := by
  rw [List.take_add_one, h]
  exact tdK_app
/-- what is marked for a leaf in a document -/
noncomputable def mkO (e : Dc) (d : Nd) : Nat := if nK d ≤ 2 then cpN d (fun t => pmk (tkC d t) (dT e (nF d))) else tdK (tdI d) (dT e (nF d))
theorem mkA_O {L : List Dc} {d : Nd} {j : Nat} {e : Dc} (h : L[j]? = some e) : mkA L d j = mkO e d := by
  unfold mkA mkO mkC mF
  rw [tlD_at h]
section SC
variable {S T U : cS} {ρ ρ' : Nat → Nat} {M : List Nat} {dp made V rd w0 w1 wr mo fo ro pl ra gi q m : Nat} {so : Nat → Nat} {sd : Nat → List Nat} {sg : Nat → List Dc} {ids : List Nat} {lv : Nat → Nat → Bool} {mk fs rw : Nat → Nat} {nd : Nat → Nd} {rr : Nat → Nat}
theorem q_scanCount {Q : Int32 → cS → Prop} {fl : Nat} {c : Int64} (g : rSt S ρ dp so sd sg made V ids lv rd w0 w1 wr mo fo ro pl ra gi mk fs rw q m nd) (hf : fl < 2) (h : Q (nI (hvN sg lv ids fl c)) S) : k_X7_scanCount Q dp V (nI fl) c S := by
  obtain ⟨gs, hid, gv, gr, gq⟩ := id g
  have i8 : ids.length < 8000 := (rSt_bd g).2.1
  unfold k_X7_scanCount k_X7_scanCount_6L
  refine lfp_cnt ids.length (fun k y => y = (V, nI fl, c, nI (sumL (hvC sg lv fl c) (ids.take k)), nI k, S)) ?_ rfl
  rintro P k _ hk rfl ih
  show k_X7_scanCount_6 Q dp _ V (nI fl) c (nI (sumL (hvC sg lv fl c) (ids.take k))) (nI k) S
  unfold k_X7_scanCount_6
  refine ⟨(g_vA gv).1, g_vsize gv (pk_le ids.length k (fun z => ?_) (fun z => ⟨(g_vA gv).1, q_vatT gv z (fun y n r hn ho ty tr => ⟨fun w => absurd w (by simp), fun b hb => ?_⟩)⟩))⟩
  · obtain rfl : k = ids.length := by omega
    rw [List.take_length]; exact h
  obtain rfl := Option.some.inj hb
  have gS := gs n (hid n (List.mem_of_getElem? hn))
  have hK : (sg n).length ≤ 100 := gS.2.2.2.2.2.1
  obtain ⟨F, hF⟩ : ∃ F : Nat → Bool, F = fun j => lv n j && !(mF (sg n) fl c j == 0) := ⟨_, rfl⟩
  unfold k_X7_scanCount_26L
  refine lfp_cnt (sg n).length (fun j y' => y' = (V, nI fl, c, nI (sumL (hvC sg lv fl c) (ids.take k) + cntB F j), nI k, some y, nI j, S)) ?_ rfl
  rintro P2 j _ hj rfl ih2
  show k_X7_scanCount_26 Q dp _ _ V (nI fl) c (nI (sumL (hvC sg lv fl c) (ids.take k) + cntB F j)) (nI k) (some y) (nI j) S
  have stop : ∀ v, j < (sg n).length → v = sumL (hvC sg lv fl c) (ids.take k) + cntB F (j + 1) → k_X7_scanCount_84 Q dp (fun b0 b1 b2 b3 b4 S => P (b0, b1, b2, b3, b4, S)) (fun b0 b1 b2 b3 b4 b5 b6 S => P2 (b0, b1, b2, b3, b4, b5, b6, S)) V (nI fl) c (nI v) (nI k) y (nI j) S := by
    intro v hj2 hv
    unfold k_X7_scanCount_84
    rintro _ rfl
    rw [nI_add, hv]
    exact ih2 _ hj2 rfl
  unfold k_X7_scanCount_26
  refine ⟨fun w => absurd w (by simp), fun b hb => ?_⟩
  obtain rfl := Option.some.inj hb
  refine ⟨ho.1, so n, ho.2.1, gS.1.1, q_sgSize gS.1 (pk_le (sg n).length j (fun z2 => ?_) (fun z2 => ⟨ho.1, q_isLive ho (by omega) ?_⟩))⟩
  · obtain rfl : j = (sg n).length := by omega
    unfold k_X7_scanCount_90
    rintro _ rfl
    rw [nI_add]
    refine ih _ z ?_
    rw [sumL_take hn, hvC_len hK, hF]
  · rw [decide_eq_true z2, Bool.true_and]
    refine w_b0 (lv n j) (fun e => stop _ z2 ?_) (fun e => ?_)
    · rw [cntB, show F j = false by rw [hF]; show (lv n j && _) = false; rw [e, Bool.false_and], if_neg (by decide)]
      rfl
    · obtain ⟨q1, q2, q3, ⟨dl, md, q4, q5⟩, q6⟩ := id gS.1
      obtain ⟨D, hD⟩ := get_ex (l := sd n) (k := j) (by omega)
      obtain ⟨d, hd⟩ := get_ex (l := sg n) (k := j) z2
      have gF := gS.2.2.2.1 j D d hD hd
      obtain ⟨t, mm, t1, t2, t3⟩ := gF.2.2.2.2.2 fl hf
      have em : mF (sg n) fl c j = pmk c (dT d fl) := by unfold mF; rw [tlD_at hd]
      have pl : pmk c (dT d fl) < 2 ^ 20 := pmk_lt (tTk_pl t2)
      refine ⟨ho.1, so n, ho.2.1, q1, dl, q4, q5.1, q_lget q5 hD ⟨gF.1, gF.1, q_textOf gF.1 hf t1 ⟨t2.1, q_placesOf t2 (w_z (pmk c (dT d fl)) (fun e2 => stop _ z2 ?_) (fun e2 => ?_))⟩⟩⟩
      · rw [cntB, show F j = false by rw [hF]; show (_ && !(mF (sg n) fl c j == 0)) = false; rw [em, e2, Bool.and_comm]; rfl, if_neg (by decide)]
        rfl
      · rintro _ rfl
        rw [nI_add]
        refine stop _ z2 ?_
        rw [cntB, show F j = true by
          rw [hF]
          show (lv n j && !(mF (sg n) fl c j == 0)) = true
          rw [em, e, Bool.true_and, beq_eq_false_iff_ne.mpr (by omega)]; rfl, if_pos rfl]
        omega
theorem q_scanRarities {Q : cS → Prop} (g : rSt S ρ dp so sd sg made V ids lv rd w0 w1 wr mo fo ro pl ra gi mk fs rw q m nd) (hq : qOk nd m) (hl : (lfI nd m).length ≤ 24) (h : ∀ T, fk S T ρ ρ [26] → (∀ i, i < (lfI nd m).length → cI T ra i = nI (rrN sg lv ids (lfD nd m i))) → (∀ i, (lfI nd m).length ≤ i → cI T ra i = cI S ra i) → Q T) : k_X7_scanRarities Q dp rd q V S := by
  obtain ⟨bd1, bd2, bd3⟩ := rSt_bd g
  have gv0 := g.2.2.1
  have hall : allN sg lv ids = sumL (fun n => cntB (lv n) (sg n).length) ids := rfl
  unfold k_X7_scanRarities
  refine ⟨(g_vA gv0).1, g_vlive gv0 ?_⟩
  rw [← hall]
  unfold k_X7_scanRarities_8L
  refine lfp_cnt (lfI nd m).length (fun k y => ∃ S', fk S S' ρ ρ [26] ∧ (∀ i, i < k → cI S' ra i = nI (rrN sg lv ids (lfD nd m i))) ∧ (∀ i, k ≤ i → cI S' ra i = cI S ra i) ∧ y = (rd, q, V, nI (allN sg lv ids), nI k, S')) ?_ ⟨S, fk_rf, fun i hi => absurd hi (Nat.not_lt_zero i), fun _ _ => rfl, rfl⟩
  rintro P k _ hk ⟨S', f', hb, hbo, rfl⟩ ih
  show k_X7_scanRarities_8 Q dp _ rd q V (nI (allN sg lv ids)) (nI k) S'
  have g' := rSt_fk f' (by decide) g
  obtain ⟨gs, hid, gv, gr, gq⟩ := id g'
  obtain ⟨ll, ls, lm, l1, l2, l3, l4, l5⟩ := gQ_leaf gq
  obtain ⟨ra1, ra2, ra3, ra4⟩ := gr.2.2.2.2.2.2.2.1
  unfold k_X7_scanRarities_8
  refine ⟨gq.1, ll, l1, l2.1, q_lsize l2 ?_⟩
  rw [l3]
  refine pk_le (lfI nd m).length k (fun z => ?_) (fun z => ⟨gr.1, ra, ra1, ra2, ?_⟩)
  · obtain rfl : k = (lfI nd m).length := by omega
    exact h S' f' hb hbo
  rw [ra3]
  refine pk_le 24 k (fun z2 => absurd z2 (by omega)) (fun z2 => ?_)
  obtain ⟨p, hp, np⟩ := l5 k z
  obtain ⟨hf, ho⟩ := qOk_lf hq z
  have h6 : (nT (lfD nd m k)).length ≤ 6 := by
    rcases ho with w | w
    · exact w.2.2.1
    · rw [w.2.2.2.2.2]; decide
  have clk : (nI k).toNatClampNeg = k := nI_clamp (by omega)
  refine ⟨gq.1, ll, l1, l2.1, q_lget l2 hp ⟨np.1, gr.1, ra, ra1, cX_mk ra2 ra3 (by decide) z2 rfl, fun S8 e8 => ?_⟩⟩
  rw [clk] at e8
  have s8 : cSub S' S8 (fun a => a = ra) := e8 ▸ sub_SI rfl
  have f8 : fk S' S8 ρ ρ [26] := fk_of s8 (fun a _ w => by rw [w, ra4]; decide) (by decide)
  obtain ⟨F, hF⟩ : ∃ F : Nat → Nat, F = fun t => rarN (allN sg lv ids) (hvN sg lv ids (nF (lfD nd m k)) (tkC (lfD nd m k) t)) := ⟨_, rfl⟩
  have rrF : rrN sg lv ids (lfD nd m k) = smN F (nT (lfD nd m k)).length := by rw [hF]; rfl
  unfold k_X7_scanRarities_55L
  refine lfp_cnt (nT (lfD nd m k)).length (fun t y => ∃ S2, fk S' S2 ρ ρ [26] ∧ (∀ i, i < k → cI S2 ra i = nI (rrN sg lv ids (lfD nd m i))) ∧ cI S2 ra k = nI (smN F t) ∧ (∀ i, k < i → cI S2 ra i = cI S ra i) ∧ y = (rd, q, V, nI (allN sg lv ids), nI k, p, nI t, S2)) ?_ ⟨S8, f8, fun i hi => heI_SI_k e8 (by omega) (hb i hi), heI_SI_s e8, fun i hi => heI_SI_k e8 (by omega) (hbo i (by omega)), rfl⟩
  rintro P2 t _ ht ⟨S2, f2, hb2, hk2, ho2, rfl⟩ ih2
  show k_X7_scanRarities_55 Q dp _ _ rd q V (nI (allN sg lv ids)) (nI k) p (nI t) S2
  have g2 := rSt_fk f2 (by decide) g'
  have np2 := ndT_fr f2.1 (by decide) (fun _ _ e => e) np
  have gr2 := g2.2.2.2.1
  obtain ⟨rb1, rb2, rb3, rb4⟩ := gr2.2.2.2.2.2.2.2.1
  unfold k_X7_scanRarities_55
  refine ⟨np2.1, q_tokenCount np2 (pk_le (nT (lfD nd m k)).length t (fun z3 => ?_) (fun z3 => ⟨gr2.1, ra, rb1, cX_mk rb2 rb3 (by decide) z2 rfl, np2.1, np2.1, q_tokenAt np2 z3 h6 ?_⟩))⟩
  · obtain rfl : t = (nT (lfD nd m k)).length := by omega
    rintro _ rfl
    rw [nI_add]
    refine ih _ z ⟨S2, fk_s f' f2, fun i hi => ?_, fun i hi => ho2 i (by omega), rfl⟩
    by_cases c : i = k
    · subst c; rw [rrF]; exact hk2
    · exact hb2 i (by omega)
  · rw [np2.2.2.1.2.1]
    refine q_scanCount g2 hf (q_rarityOf bd1 (bd3 _ _) ⟨cX_mk rb2 rb3 (by decide) z2 rfl, fun S15 e15 => ?_⟩)
    rintro _ rfl
    rw [clk, hk2, nI_add] at e15
    rw [nI_add]
    have s15 : cSub S2 S15 (fun a => a = ra) := e15 ▸ sub_SI rfl
    have f15 : fk S2 S15 ρ ρ [26] := fk_of s15 (fun a _ w => by rw [w, ra4]; decide) (by decide)
    refine ih2 _ z3 ⟨S15, fk_s f2 f15, fun i hi => heI_SI_k e15 (by omega) (hb2 i hi), ?_, fun i hi => heI_SI_k e15 (by omega) (ho2 i hi), rfl⟩
    rw [heI_SI_s e15, smN, hF]
theorem q_scanCounted {Q : Int32 → cS → Prop} {p t mm : Nat} {d : Nd} {fl : Bool} {l : List (Int64 × Nat)} (gr : rdr S ρ rd w0 w1 wr mo fo ro pl ra gi mk fs rw) (g : ndT S ρ 17 p d fl) (hd : tkOk d) (ht : tTk S t mm l) (hz : ∀ z, tF S t z → ρ z = 8) (h : ∀ T, fk S T ρ ρ [25] → Q (nI (cpN d (fun t => pmk (tkC d t) l))) T) : k_X7_scanCounted Q dp rd p t S := by
  obtain ⟨k1, k2, k3, k4, k5, k6⟩ := id hd
  unfold k_X7_scanCounted k_X7_scanCounted_2L
  refine lfp_cnt (nT d).length (fun k y => ∃ S', fk S S' ρ ρ [25] ∧ (∀ i, i < k → cI S' pl i = nI (pmk (tkC d i) l)) ∧ y = (rd, p, t, nI k, S')) ?_ ⟨S, fk_rf, fun i hi => absurd hi (Nat.not_lt_zero i), rfl⟩
  rintro P k _ hk ⟨S', f', hb, rfl⟩ ih
  show k_X7_scanCounted_2 Q dp _ rd p t (nI k) S'
  have gr' := rdr_s f'.1 (by decide) (by decide) gr
  have g' := ndT_fr f'.1 (by decide) (fun _ _ e => e) g
  have t' := tTk_sub f'.1.1 ht (fun z hz' => by rw [hz z hz']; decide)
  obtain ⟨l1, l2, l3, l4⟩ := gr'.2.2.2.2.2.2.1
  have clk : (nI k).toNatClampNeg = k := nI_clamp (by omega)
  unfold k_X7_scanCounted_2
  refine ⟨g'.1, q_tokenCount g' (pk_le (nT d).length k (fun z => ?_) (fun z => ⟨gr'.1, pl, l1, l2, ?_⟩))⟩
  · obtain rfl : k = (nT d).length := by omega
    unfold k_X7_scanCounted_40
    exact ⟨gr'.1, pl, l1, g'.1, q_countedPlaces g' hd l2 l3 (mk := fun t => pmk (tkC d t) l) (fun i hi => ⟨hb i hi, Nat.lt_trans (pmk_lt (tTk_pl ht)) (by decide)⟩) (h S' f')⟩
  · rw [l3]
    refine pk_le 6 k (fun z2 => absurd z2 (by omega)) (fun z2 => ⟨gr'.1, pl, l1, g'.1, q_tokenAt g' z k3 ⟨t'.1, q_placesOf t' ⟨cX_mk l2 l3 (by decide) z2 rfl, fun S8 e8 => ?_⟩⟩⟩)
    rintro _ rfl
    rw [clk] at e8
    rw [nI_add]
    refine ih _ z ⟨S8, fk_s f' (fk_of (F := fun a => a = pl) (e8 ▸ sub_SI rfl) (fun a _ w => by rw [w, l4]; decide) (by decide)), fun i hi => ?_, rfl⟩
    by_cases c : i = k
    · subst c; exact heI_SI_s e8
    · exact heI_SI_k e8 c (hb i (by omega))
theorem q_scanTold {Q : Int32 → cS → Prop} {p t mm : Nat} {d : Nd} {fl : Bool} {l : List (Int64 × Nat)} (g : ndT S ρ 17 p d fl) (hd : tlOk d) (ht : tTk S t mm l) (hz : ∀ z, tF S t z → ρ z = 8) (hW : ∀ x, x ∈ l → ∃ w, w < 37 ^ 12 ∧ x.1 = lN w) (h : ∀ T, fk S T ρ ρ [18] → Q (nI (tdK (tdI d) l)) T) : k_X7_scanTold Q dp p t S := by
  unfold k_X7_scanTold k_X7_scanTold_4L
  refine lfp_cnt l.length (fun k y => ∃ S', fk S S' ρ ρ [18] ∧ y = (p, t, nI (tdK (tdI d) (l.take k)), nI k, S')) ?_ ⟨S, fk_rf, rfl⟩
  rintro P k _ hk ⟨S', f', rfl⟩ ih
  show k_X7_scanTold_4 Q dp _ p t (nI (tdK (tdI d) (l.take k))) (nI k) S'
  have g' := ndT_fr f'.1 (by decide) (fun _ _ e => e) g
  have t' := tTk_sub f'.1.1 ht (fun z hz' => by rw [hz z hz']; decide)
  have l444 : l.length ≤ 444 := Nat.le_trans ht.2.2.1 ht.2.2.2.1
  unfold k_X7_scanTold_4
  rw [t'.2.1]
  refine ⟨t'.1, pk_le l.length k (fun z => ?_) (fun z => ?_)⟩
  · obtain rfl : k = l.length := by omega
    rw [List.take_length]
    exact h S' f'
  obtain ⟨x, hx⟩ := get_ex z
  obtain ⟨w, hw, hxw⟩ := hW x (List.mem_of_getElem? hx)
  refine ⟨t'.1, q_codeAt t' hx ⟨g'.1, ?_⟩⟩
  rw [hxw]
  refine q_isTold g' hd hw (by decide) (fun S2 f2 => ?_)
  have f2' : fk S S2 ρ ρ [18] := fk_s f' (fr_fk f2 (by decide))
  have tw : tdI d x.1 = tdB d w := by
    unfold tdI
    rw [hxw, lN_nat (Nat.lt_trans hw (by decide))]
  have fin : ∀ v, v = tdK (tdI d) (l.take (k + 1)) → k_X7_scanTold_34 Q dp (fun b0 b1 b2 b3 S => P (b0, b1, b2, b3, S)) p t (nI v) (nI k) S2 := by
    intro v hv
    unfold k_X7_scanTold_34
    rintro _ rfl
    rw [nI_add, hv]
    exact ih _ z ⟨S2, f2', rfl⟩
  refine w_b0 (tdB d w) (fun e => fin _ (by rw [tdK_take hx, tw, e, if_neg (by decide), Nat.or_zero])) (fun e => ?_)
  have t2 := tTk_sub f2'.1.1 ht (fun z hz' => by rw [hz z hz']; decide)
  have p20 := tTk_pl ht x (List.mem_of_getElem? hx)
  refine ⟨t2.1, q_placeAt t2 hx ?_⟩
  rintro _ rfl
  rw [nI_shl1 (by omega), nI_or]
  exact fin _ (by rw [tdK_take hx, tw, e, if_pos rfl])
theorem q_scanDocument {Q : cS → Prop} {D : Nat} {e : Dc} (gr : rdr S ρ rd w0 w1 wr mo fo ro pl ra gi mk fs rw) (g : gQy S ρ dp 17 17 q m nd) (hq : qOk nd m) (hl : (lfI nd m).length ≤ 24) (gF : gFz S ρ D e) (hW : ∀ (fl : Nat) (x : Int64 × Nat), x ∈ dT e fl → ∃ w, w < 37 ^ 12 ∧ x.1 = lN w) (h : ∀ T, fk S T ρ ρ [18, 22, 25] → (∀ i, i < (lfI nd m).length → cI T (mk i) 0 = nI (mkO e (lfD nd m i)) ∧ mkO e (lfD nd m i) < 2 ^ 20) → Q T) : k_X7_scanDocument Q dp rd q D S := by
  unfold k_X7_scanDocument k_X7_scanDocument_2L
  refine lfp_cnt (lfI nd m).length (fun k y => ∃ S', fk S S' ρ ρ [18, 22, 25] ∧ (∀ i, i < k → cI S' (mk i) 0 = nI (mkO e (lfD nd m i)) ∧ mkO e (lfD nd m i) < 2 ^ 20) ∧ y = (rd, q, D, nI k, S')) ?_ ⟨S, fk_rf, fun i hi => absurd hi (Nat.not_lt_zero i), rfl⟩
  rintro P k _ hk ⟨S', f', hb, rfl⟩ ih
  show k_X7_scanDocument_2 Q dp _ rd q D (nI k) S'
  have gr' := rdr_s f'.1 (by decide) (by decide) gr
  have g' : gQy S' ρ dp 17 17 q m nd := gQy_fr f'.1 (by decide) (by decide) (fun _ _ e => e) g
  have gF' := gFz_fr f'.1 (by decide) gF
  obtain ⟨ll, ls, lm, l1, l2, l3, l4, l5⟩ := gQ_leaf g'
  unfold k_X7_scanDocument_2
  refine ⟨g'.1, ll, l1, l2.1, q_lsize l2 ?_⟩
  rw [l3]
  refine pk_le (lfI nd m).length k (fun z => ?_) (fun z => pk_le 24 k (fun z2 => absurd z2 (by omega)) (fun z2 => ?_))
  · obtain rfl : k = (lfI nd m).length := by omega
    exact h S' f' hb
  obtain ⟨p, hp, np⟩ := l5 k z
  obtain ⟨hf, ho⟩ := qOk_lf hq z
  have clk : (nI k).toNatClampNeg = k := nI_clamp (by omega)
  obtain ⟨m1, m2, m3, m4, m5, m6⟩ := gr'.2.2.2.1
  obtain ⟨a1, a2, a3, a4⟩ := m5 k z2
  obtain ⟨t, mm, t1, t2, t3⟩ := gF'.2.2.2.2.2 (nF (lfD nd m k)) hf
  have tp := tTk_pl t2
  have fin : ∀ {S2 : cS} {v : Nat}, fk S' S2 ρ ρ [18, 25] → v = mkO e (lfD nd m k) → v < 2 ^ 20 → k_X7_scanDocument_76 Q dp (fun b0 b1 b2 b3 S => P (b0, b1, b2, b3, S)) rd q D (nI k) (nI v) (nI 0) (mk k) S2 := by
    intro S2 v f2 hv hv2
    have b2 := fr_A f2.1 a2
    unfold k_X7_scanDocument_76
    refine ⟨cX_mk b2 ((sub_cn f2.1.1 a2).trans a3) (by decide) (show 0 < 100 by decide) rfl, fun S10 e10 => ?_⟩
    rintro _ rfl
    rw [show (nI 0).toNatClampNeg = 0 from nI_clamp (by decide)] at e10
    rw [nI_add]
    have s10 : cSub S2 S10 (fun a => a = mk k) := e10 ▸ sub_SI rfl
    refine ih _ z ⟨S10, fk_s f' (fk_s (fk_up f2 (by decide)) (fk_up (fk_of s10 (M := [22]) (fun a _ w => by rw [w, a4]; decide) (by decide)) (by decide))), fun i hi => ?_, rfl⟩
    by_cases c : i = k
    · subst c; rw [← hv]; exact ⟨heI_SI_s e10, hv2⟩
    · have mi := m5 i (by omega)
      have ne : ¬ mk i = mk k := fun w => by have := m6 i k (by omega) z2 w; omega
      rw [sub_cI s10 (fr_A f2.1 mi.2.1) ne, sub_cI f2.1.1 mi.2.1 (by rw [mi.2.2.2]; decide)]
      exact hb i (by omega)
  refine ⟨g'.1, ll, l1, l2.1, q_lget l2 hp ⟨np.1, np.1, gF'.1, ?_⟩⟩
  rw [np.2.2.1.2.1]
  refine q_textOf gF'.1 hf t1 ⟨gr'.1, mo, m1, cX_mk m2 m3 (by decide) z2 rfl, mk k, by rw [clk]; exact a1, np.1, q_isCounted np (w_b0 (decide (nK (lfD nd m k) ≤ 2)) (fun c => ?_) (fun c => ?_))⟩
  · have nk : ¬ nK (lfD nd m k) ≤ 2 := of_decide_eq_false c
    have e1 : mkO e (lfD nd m k) = tdK (tdI (lfD nd m k)) (dT e (nF (lfD nd m k))) := by unfold mkO; rw [if_neg nk]
    exact q_scanTold np (ho.resolve_left (fun w => nk w.1)) t2 t3 (hW _) (fun S2 f2 => fin (fk_up f2 (by decide)) e1.symm (tdK_lt tp))
  · have nk : nK (lfD nd m k) ≤ 2 := of_decide_eq_true c
    have e1 : mkO e (lfD nd m k) = cpN (lfD nd m k) (fun t => pmk (tkC (lfD nd m k) t) (dT e (nF (lfD nd m k)))) := by unfold mkO; rw [if_pos nk]
    exact ⟨gr'.1, q_scanCounted gr' np (ho.resolve_right (fun w => by have := w.1; omega)) t2 t3 (fun S2 f2 => fin (fk_up f2 (by decide)) e1.symm cpF_lt)⟩
end SC
