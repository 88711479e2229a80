/-! the reference: what is sorted at a place -/
section SP
variable {v v' : Nat → Int32} {f f' : Nat → Nat → Int32} {g g' : Nat → Nat → Int64} {l : LGt} {made dn : Nat} {sg : Nat → List Dc} {hd : Nat → Nat → Nat} {sl : Nat → Option (Nat × Vw)} {a k q m w0 w1 : Nat} {s : Vw} {nd : Nat → Nd} {rr : Nat → Nat} {qs : List (Nat × (Nat → Nd))}
theorem srW_0 {N : Nat → Nat} {up : Bool} : srW N up 0 [] := ⟨List.Perm.refl _, fun p i hi => absurd (get_lt hi) (Nat.not_lt_zero p), fun p p' i i' _ hi => absurd (get_lt hi) (Nat.not_lt_zero p)⟩
/-- what a sort may change -/
def srO (v v' : Nat → Int32) (f f' : Nat → Nat → Int32) : Prop := (∀ i, i ∉ [99, 60] → v' i = v i) ∧ ∀ n, n ∉ [38, 39, 52, 53, 54, 55, 56] → f' n = f n
theorem p_sortedAt {Q : QI} {x y z : Int32} {up : Bool} (hl : rLg v g l) (hS : scW l) (hpw : mPow g) (hs : rSg l v f g made dn sg hd) (hk : rLk f made sg sl) (hT : ∀ a s, a < 5 → sl a = some s → allN sg s.2.2 s.2.1 ≤ 600) (hq : rQl v f g qs) (hG : qrG qs) (h0 : f 49 0 = nI w0) (h1 : f 49 1 = nI w1) (hw : w0 ≤ 9 ∧ w1 ≤ 9) (hX : nAsk sl qs x y → Q (nI 0) (upd v 99 (nI 1)) f g) (hX2 : ∀ a s q e, isA sl qs x y a s q e → (∀ p, p < (dcQ sg s.2 e).length → z ≠ nI p) → ∀ v' f', srO v v' f f' → v' 99 = nI 1 → Q (nI 0) v' f' g) (h : ∀ a s q e p i d, isA sl qs x y a s q e → p < (dcQ sg s.2 e).length → z = nI p → (dcQ sg s.2 e)[i]? = some d → splN (dnO (dcQ sg s.2 e)) up (dcQ sg s.2 e).length i = p → ∀ v' f', srO v v' f f' → v' 99 = nI 0 → Q (nI (dK d)) v' f' g) : r_sortedAt Q x y (bI up) z v f g := by
  unfold r_sortedAt
  refine p_slotAsk hk hq (fun r hno => ?_) (fun a s q e hA => ?_)
  · refine ⟨fun _ => ?_, fun w => absurd rfl w⟩
    unfold r_sortedAt_174
    refine p_inL (n := 0) (by decide) (fun _ => ?_) (fun k hk => absurd hk (Nat.not_lt_zero k))
    exact p_goes (b1 := false) (b2 := true) (b3 := true) ⟨fun _ => hX hno, fun w => absurd rfl w⟩
  refine ⟨fun w => absurd w (by decide), fun _ => ?_⟩
  have hX2 := hX2 a s q e hA
  have h := fun p i d => h a s q e p i d hA
  obtain ⟨a5, hsl, ex, he, ey⟩ := hA
  rw [ey]
  refine p_ready (k := s.1) (s := s.2) hl hS hpw hs hk a5 hsl (hT a s a5 hsl) hq hG he h0 h1 hw (fun v1 f1 b1 b2 b3 b4 b5 => ?_)
  obtain ⟨T, hTT⟩ : ∃ T, T = mtL sg s.2.2 s.2.1 := ⟨_, rfl⟩
  obtain ⟨v60, T6, v38⟩ := id b3
  obtain ⟨P0, hP0⟩ : ∃ P0 : Nat × Nat → Bool, P0 = fun y => mtB e (sg y.1) y.2 := ⟨_, rfl⟩
  obtain ⟨M, hM⟩ : ∃ M, M = T.filter P0 := ⟨_, rfl⟩
  have hMQ : M = mtQ sg s.2 e := by rw [hM, hTT, hP0, mtQ_filter]
  obtain ⟨N, hN⟩ : ∃ N, N = dnO (dcQ sg s.2 e) := ⟨_, rfl⟩
  have dl : (dcQ sg s.2 e).length = M.length := by unfold dcQ; rw [List.length_map, hMQ]
  rw [dl] at hX2 h
  rw [← hN] at h
  have hmem : ∀ y, y ∈ T → _ := fun y hy => rSg_at (s := s.2) b4.2.1 (hid_of hk a5 hsl) (by rw [← hTT]; exact hy)
  rw [← hTT] at v60 T6 v38
  have Ml : M.length ≤ T.length := by rw [hM]; exact List.length_filter_le _ _
  have dcg : ∀ (i : Nat) (y : Nat × Nat) (d : Dc), M[i]? = some y → (sg y.1)[y.2]? = some d → (dcQ sg s.2 e)[i]? = some d ∧ N i = dN d := by
    intro i y d hy hd'
    have : (dcQ sg s.2 e)[i]? = some d := by
      unfold dcQ
      rw [← hMQ, List.getElem?_map, hy]
      show some ((sg y.1).getD y.2 _) = _
      rw [List.getD_eq_getElem?_getD, hd']; rfl
    refine ⟨this, ?_⟩
    rw [hN]
    unfold dnO
    rw [List.getD_eq_getElem?_getD, this]; rfl
  obtain ⟨h', hh'⟩ : ∃ h' : Nat → Nat, h' = fun i => hd (M.getD i (0, 0)).1 (M.getD i (0, 0)).2 := ⟨_, rfl⟩
  have hg : ∀ (i : Nat) (y : Nat × Nat), M[i]? = some y → h' i = hd y.1 y.2 := fun i y hy => by rw [hh']; show hd (M.getD i (0, 0)).1 (M.getD i (0, 0)).2 = _; rw [List.getD_eq_getElem?_getD, hy]; rfl
  have MT : ∀ (i : Nat) (y : Nat × Nat), M[i]? = some y → y ∈ T := fun i y hy => by
    have := List.mem_of_getElem? hy
    rw [hM] at this
    exact (List.mem_filter.mp this).1
  unfold r_sortedAt_30L
  refine lfp_cnt T.length (fun i z' => ∃ f2 W, srO v v1 f f2 ∧ fdF f1 (sR f2 39 (f1 39)) ∧ srW N up ((T.take i).filter P0).length W ∧ (∀ p j, W[p]? = some j → f2 39 p = nI (h' j)) ∧ z' = (nI q, bI up, z, nI ((T.take i).filter P0).length, nI i, v1, f2, g)) ?_ ⟨f1, [], ⟨fun i hi => b1 i (fun e => hi (by rw [e]; decide)), fun n hn => b2 n (fun w => hn (by revert w; simp; omega))⟩, fun n _ => by
    by_cases c : n = 39
    · rw [c, sR_s]
    · rw [sR_n c], srW_0, fun p j hj => absurd (get_lt hj) (Nat.not_lt_zero p), rfl⟩
  rintro P i _ hi ⟨f2, W, c1, c2, c3, c4, rfl⟩ ih
  show r_sortedAt_30 Q _ (nI q) (bI up) z (nI ((T.take i).filter P0).length) (nI i) v1 f2 g
  obtain ⟨c, hc⟩ : ∃ c, c = ((T.take i).filter P0).length := ⟨_, rfl⟩
  rw [← hc] at c3 ⊢
  have cle : c ≤ T.length := by rw [hc]; exact Nat.le_trans (List.length_filter_le _ _) (by rw [List.length_take]; omega)
  have f2o : ∀ n, n ∉ [39, 52, 53, 54, 57, 58, 59, 60] → f2 n = f1 n := fun n hn => by
    have e39 : n ≠ 39 := fun e => hn (by rw [e]; decide)
    have := c2 n (fun w => hn (List.mem_cons_of_mem _ w))
    rwa [sR_n e39] at this
  have Mpre : M = (T.take i).filter P0 ++ (T.drop i).filter P0 := by rw [hM, ← List.filter_append, List.take_append_drop]
  unfold r_sortedAt_30
  rw [v60]
  refine pk_le T.length i (fun z2 => ?_) (fun z2 => ?_)
  · obtain rfl : i = T.length := by omega
    rw [List.take_length, ← hM] at hc
    subst hc
    have wl : W.length = M.length := by rw [c3.1.length_eq, List.length_range]
    unfold r_sortedAt_174
    refine p_inL (by omega) (fun hno => ?_) (fun p hp ez => ?_)
    · exact p_goes (b1 := false) (b2 := true) (b3 := true) ⟨fun _ => hX2 hno _ f2 ⟨fun i hi => by rw [upd_n (fun e => hi (by rw [e]; decide))]; exact c1.1 i hi, c1.2⟩ upd_at, fun w => absurd rfl w⟩
    · refine p_goes (b1 := true) (b2 := true) (b3 := true) ⟨fun w => absurd w (by decide), fun _ => ?_⟩
      obtain ⟨j, hj⟩ := get_ex (l := W) (k := p) (by omega)
      have jM : j < M.length := List.mem_range.mp (c3.1.mem_iff.mp (List.mem_of_getElem? hj))
      obtain ⟨y, hy⟩ := get_ex (l := M) (k := j) jM
      obtain ⟨d, hd', ⟨⟨k1, k2⟩, -⟩, hlt⟩ := hmem y (MT j y hy)
      rw [ez, nI_clamp (show p < 2 ^ 31 by omega), c4 p j hj, hg j y hy, nI_clamp (show hd y.1 y.2 < 2 ^ 31 by omega), f2o 14 (by decide), k1]
      refine ⟨pk_in p 2424 (by omega), pk_in (hd y.1 y.2) 2424 (by omega), ?_⟩
      exact h p j d hp ez (dcg j y d hy hd').1 (c3.2.1 p j hj) _ f2 ⟨fun i hi => by rw [upd_n (fun e => hi (by rw [e]; decide))]; exact c1.1 i hi, c1.2⟩ upd_at
  obtain ⟨y, hy⟩ := get_ex (l := T) (k := i) z2
  have hyT := List.mem_of_getElem? hy
  have tk : (T.take (i + 1)).filter P0 = (T.take i).filter P0 ++ if P0 y = true then [y] else [] := by
    rw [List.take_add_one, hy, List.filter_append]
    congr 1
    show [y].filter P0 = _
    rw [List.filter_cons, List.filter_nil]
  obtain ⟨d, hd', ⟨⟨k1, k2⟩, -, ⟨k3, k4⟩, -⟩, hlt⟩ := hmem y hyT
  have e38 : f2 38 i = nI (hd y.1 y.2) := by rw [f2o 38 (by decide)]; exact v38 i y hy
  have iin : vp_in (nI i) 2424 := pk_in i 2424 (by omega)
  rw [nI_clamp (show i < 2 ^ 31 by omega), e38]
  have b4' : rFc v1 f2 g l made dn sg hd sl q e.1 e.2 w0 w1 (rrL e.2 e.1 sg s.2.2 s.2.1) := by
    have b := rFc_fr (fun _ _ => rfl) c2 b4
    unfold rFc rSg rLk at b ⊢
    have nd' : ∀ o d, rNd (sR f2 39 (f1 39)) g o d → rNd f2 g o d := fun o d hN => rNd_cp hN (by rw [sR_n (by decide)]) (by rw [sR_n (by decide)]) (by rw [sR_n (by decide)]) (by rw [sR_n (by decide)]) (by rw [sR_n (by decide)]) (fun _ _ => rfl) (fun _ _ => by rw [sR_n (by decide)]) (fun _ _ => by rw [sR_n (by decide)])
    rw [sR_n (show 20 ≠ 39 by decide), sR_n (show 19 ≠ 39 by decide), sR_n (show 14 ≠ 39 by decide), sR_n (show 15 ≠ 39 by decide), sR_n (show 16 ≠ 39 by decide), sR_n (show 18 ≠ 39 by decide), sR_n (show 29 ≠ 39 by decide), sR_n (show 30 ≠ 39 by decide), sR_n (show 31 ≠ 39 by decide), sR_n (show 32 ≠ 39 by decide), sR_n (show 48 ≠ 39 by decide), sR_n (show 55 ≠ 39 by decide), sR_n (show 56 ≠ 39 by decide)] at b
    obtain ⟨d1, d2, d3, d4, d5, d6, d7⟩ := b
    exact ⟨d1, d2, d3, d4, fun j hj => nd' _ _ (d5 j hj), d6, d7⟩
  have frN : ∀ f3 f4 : Nat → Nat → Int32, rS3 f2 f3 → (∀ n, n ≠ 39 → f4 n = f3 n) → srO v v1 f f4 ∧ fdF f1 (sR f4 39 (f1 39)) := by
    intro f3 f4 s3 h4
    refine ⟨⟨c1.1, fun n hn => ?_⟩, fun n hn => ?_⟩
    · rw [h4 n (fun e => hn (by rw [e]; decide)), s3 n (fun e => hn (by rw [e]; decide)) (fun e => hn (by rw [e]; decide)) (fun e => hn (by rw [e]; decide))]
      exact c1.2 n hn
    · by_cases c : n = 39
      · rw [c, sR_s]
      · rw [sR_n c, h4 n c, s3 n (fun e => hn (by rw [e]; decide)) (fun e => hn (by rw [e]; decide)) (fun e => hn (by rw [e]; decide))]
        have := c2 n hn
        rwa [sR_n c] at this
  refine ⟨iin, p_give1 b4' b5 (by rw [← hTT]; exact hyT) (fun f3 s3 vB => ?_)⟩
  have vs : (vlN e.2 e.1 w0 w1 (rrL e.2 e.1 sg s.2.2 s.2.1) (sg y.1) y.2).isSome = P0 y := by rw [vl_some, hP0]
  have c439 : ∀ p j, W[p]? = some j → f3 39 p = nI (h' j) := fun p j hj => by rw [s3 39 (by decide) (by decide) (by decide)]; exact c4 p j hj
  refine (w_ci vB (fun r hr => ?_) (fun hr => ?_)).symm
  · rw [hr] at vs
    have py : P0 y = true := vs.symm
    rw [if_pos py] at tk
    have hlen : ((T.take (i + 1)).filter P0).length = c + 1 := by rw [tk, List.length_append, ← hc]; rfl
    have pre : ∀ (j : Nat) (y' : Nat × Nat), ((T.take (i + 1)).filter P0)[j]? = some y' → M[j]? = some y' := fun j y' hj => by
      rw [hM]
      conv => lhs; rw [← List.take_append_drop (i + 1) T]
      rw [List.filter_append, List.getElem?_append_left (get_lt hj)]; exact hj
    have hcy : M[c]? = some y := pre c y (by rw [tk, hc, List.getElem?_append_right (Nat.le_refl _), Nat.sub_self]; rfl)
    refine p_sorted59 (N := N) (h := h') c3 (by omega) (by omega) (fun j hj => ?_) ?_ c439 (fun f4 W' d1 d2 d3 => ?_)
    · obtain ⟨y', hy'⟩ := get_ex (l := (T.take (i + 1)).filter P0) (k := j) (by omega)
      have hM' := pre j y' hy'
      obtain ⟨d', hd2, ⟨-, -, ⟨n1, n2⟩, -⟩, hlt'⟩ := hmem y' (MT j y' hM')
      rw [hg j y' hM', (dcg j y' d' hM' hd2).2, s3 16 (by decide) (by decide) (by decide), f2o 16 (by decide)]
      exact ⟨by omega, n1, n2⟩
    · rw [hg c y hcy, s3 38 (by decide) (by decide) (by decide)]; exact e38
    · obtain ⟨e1, e2⟩ := frN f3 f4 s3 d1
      exact ih _ z2 ⟨f4, W', e1, e2, by rw [hlen]; exact d2, d3, by rw [hlen]⟩
  · rw [hr] at vs
    have py : ¬ P0 y = true := fun w => by rw [w] at vs; exact absurd vs (by decide)
    rw [if_neg py, List.append_nil] at tk
    unfold r_sortedAt_168
    rintro _ rfl
    rw [nI_add]
    obtain ⟨e1, e2⟩ := frN f3 f3 s3 (fun _ _ => rfl)
    exact ih _ z2 ⟨f3, W, e1, e2, by rw [tk, ← hc]; exact c3, c439, by rw [tk, ← hc]⟩
end SP
