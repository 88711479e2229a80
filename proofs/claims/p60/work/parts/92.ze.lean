/-! the law prepares -/
def cmF (ln : Nat → Nat) (lv wb : Nat → Nat → Bool) (n : Nat) : Nat := if bN (lv n) (ln n) = bN (wb n) (ln n) then 0 else 1
def dwV (S V : cS) (ar : Nat → Nat) (w' : Nat) : Prop := lwT S V ([5, 8, 9, 10, 15].map ar) ∧ rO S V (ar 15) [1, 3, 4, 5, 6, 9, 13, 14, 15, 16] ∧ (cI V (ar 15) 4 = nI w' ∧ cI V (ar 15) 6 = nI 1 ∧ cI V (ar 15) 1 = nI 0 ∧ cI V (ar 15) 3 = nI 0 ∧ cI V (ar 15) 9 = nI 0 ∧ cI V (ar 15) 13 = nI 0 ∧ cI V (ar 15) 14 = nI 0 ∧ cI V (ar 15) 15 = nI 0 ∧ cI V (ar 15) 16 = nI 0) ∧ cI V (ar 8) 0 = nI 0 ∧ cI V (ar 9) 0 = nI 0 ∧ cI V (ar 10) 0 = nI 0
section LZF
variable {S V T W : cS} {dp x w : Nat} {ar : Nat → Nat} {ids : List Nat} {ln : Nat → Nat} {lv wb : Nat → Nat → Bool} {cc : Option Nat}
theorem wl6 {A B : List Nat} (h : lwT S T (A.map ar)) (hs : A.all (fun q => B.contains q) = true) : lwT S T (B.map ar) := lw_wk h (fun a ha => by
  obtain ⟨q, hq, e⟩ := List.mem_map.mp ha
  exact e ▸ List.mem_map.mpr ⟨q, by simpa using List.all_eq_true.mp hs q hq, rfl⟩)
theorem sumL_tk {f : Nat → Nat} {l : List Nat} {k : Nat} : sumL f (l.take k) ≤ sumL f l := by
  have e := sumL_app f (l.take k) (l.drop k)
  rw [List.take_append_drop] at e
  omega
theorem dw_of {m : Nat} (hW : lwT S W ([5, 15].map ar)) (oW : rO S W (ar 15) [4, 5]) (h : lDw W V (ar 15) (ar 8) (ar 9) (ar 10) m) : dwV S V ar m := by
  obtain ⟨wV, oV, hm, p0, q0, g0⟩ := h
  have wV' : lwT W V ([15, 8, 9, 10].map ar) := wV
  refine ⟨lw_tr (wl6 hW rfl) (wl6 wV' rfl) (fun _ z => z), fun q hq => ?_, hm, p0, q0, g0⟩
  rw [oV q hq, oW q (fun c => hq (by simp at c ⊢; rcases c with c | c <;> simp [c]))]
theorem q_comm91 {Q : Int32 → cS → Prop} {mc ms cd dd : Nat} {r : Int32} (g : lRow S ar) (hbd : cd ≤ mc ∧ dd ≤ ms) (hx : ∀ i n, ids[i]? = some n → cI S (ar 6) i = nI n ∧ n < 27) (hl : ids.length ≤ 27) (m3 : cI S (ar 15) 3 = nI ids.length) (nd : ids.Nodup) (hln : ∀ n, n ∈ ids → ln n ≤ 10) (hv : ∀ n, n ∈ ids → cI S (ar 4) n = nI (bN (lv n) (ln n))) (hw : ∀ n, n ∈ ids → cI S (ar 5) n = nI (bN (wb n) (ln n))) (m4 : cI S (ar 15) 4 = nI w) (m5 : cI S (ar 15) 5 = cIn cc) (hcc : ∀ k, cc = some k → k ≤ 1000) (hr : ¬ r ≤ -2) (h1 : ∀ W, lwT S W ([5, 15].map ar) → rO S W (ar 15) [4, 5] → cI W (ar 15) 4 = nI (w + sumL (cmF ln lv wb) ids) → cI W (ar 15) 5 = cIn (cc.map (fun k => k - sumL (cmF ln lv wb) ids)) → (∀ k, cc = some k → sumL (cmF ln lv wb) ids ≤ k) → (∀ n, n ∈ ids → cI W (ar 5) n = nI (bN (lv n) (ln n))) → k_L_isCommitted_189 Q dp mc ms x (ar 4) (ar 6) (ar 8) (ar 9) (ar 10) (ar 15) r cd dd W) (h2 : ∀ V d, cc = some d → d < sumL (cmF ln lv wb) ids → dwV S V ar (w + d) → k_L_isCommitted_189 Q dp mc ms x (ar 4) (ar 6) (ar 8) (ar 9) (ar 10) (ar 15) (-2) cd dd V) : k_L_isCommitted_91L Q dp mc ms x (ar 4) (ar 5) (ar 6) (ar 8) (ar 9) (ar 10) (ar 15) r (nI 0) cd dd S := by
  have hr2 : r ≠ -2 := fun e => hr (by rw [e]; decide)
  unfold k_L_isCommitted_91L
  refine lfp_cnt ids.length (fun i y => (∃ W, lwT S W ([5, 15].map ar) ∧ rO S W (ar 15) [4, 5] ∧ cI W (ar 15) 4 = nI (w + sumL (cmF ln lv wb) (ids.take i)) ∧ cI W (ar 15) 5 = cIn (cc.map (fun k => k - sumL (cmF ln lv wb) (ids.take i))) ∧ (∀ k, cc = some k → sumL (cmF ln lv wb) (ids.take i) ≤ k) ∧ (∀ j n, ids[j]? = some n → cI W (ar 5) n = nI (bN (if j < i then lv n else wb n) (ln n))) ∧ y = (x, ar 4, ar 5, ar 6, ar 8, ar 9, ar 10, ar 15, r, nI i, cd, dd, W)) ∨ ∃ V d, cc = some d ∧ d < sumL (cmF ln lv wb) ids ∧ dwV S V ar (w + d) ∧ y = (x, ar 4, ar 5, ar 6, ar 8, ar 9, ar 10, ar 15, -2, nI i, cd, dd, V)) ?_ (Or.inl ⟨S, lw_rf, rO_rf, by rw [List.take_zero]; exact m4, by rw [List.take_zero, show (fun k => k - sumL (cmF ln lv wb) []) = (fun k : Nat => k) from rfl]; cases cc <;> exact m5, fun _ _ => by rw [List.take_zero]; exact Nat.zero_le _, fun j n hj => by rw [if_neg (Nat.not_lt_zero j)]; exact hw n (List.mem_of_getElem? hj), rfl⟩)
  rintro P i _ hi (⟨W, wW, oW, e4, e5, hD, e6, rfl⟩ | ⟨V, d, hcd, hdD, hV, rfl⟩) ih
  · show k_L_isCommitted_91 Q dp mc ms _ x (ar 4) (ar 5) (ar 6) (ar 8) (ar 9) (ar 10) (ar 15) r (nI i) cd dd W
    have gW := lR_w wW g
    have c15 := lR_X gW (i := 15) (by decide) (show 3 < 17 by decide)
    unfold k_L_isCommitted_91
    rw [nI_x 3 (by decide), oW 3 (by decide), m3]
    refine ⟨c15, pk_le ids.length i (fun c => ?_) (fun c => ⟨fun z => absurd z hr, fun _ => ?_⟩)⟩
    · obtain rfl : i = ids.length := by omega
      rw [List.take_length] at e4 e5 hD
      exact h1 W wW oW e4 e5 hD (fun n hn => by
        obtain ⟨j, hj⟩ := List.mem_iff_getElem?.mp hn
        rw [e6 j n hj, if_pos (get_lt hj)])
    · obtain ⟨n, hn⟩ : ∃ n, ids[i]? = some n := ⟨_, List.getElem?_eq_getElem c⟩
      have hin := List.mem_of_getElem? hn
      obtain ⟨ex, n27⟩ := hx i n hn
      have exW : cI W (ar 6) i = nI n := by rw [lwI g wW 6 rfl]; exact ex
      have evW : cI W (ar 4) n = nI (bN (lv n) (ln n)) := by rw [lwI g wW 4 rfl]; exact hv n hin
      have ewW : cI W (ar 5) n = nI (bN (wb n) (ln n)) := by rw [e6 i n hn, if_neg (Nat.lt_irrefl _)]
      have b1 : bN (lv n) (ln n) < 2 ^ 31 := Nat.lt_of_lt_of_le (bN_le31 (by have := hln n hin; omega)) (by decide)
      have b2 : bN (wb n) (ln n) < 2 ^ 31 := Nat.lt_of_lt_of_le (bN_le31 (by have := hln n hin; omega)) (by decide)
      have c6 := lR_X gW (i := 6) (by decide) (show i < 30 by omega)
      have c4 := lR_X gW (i := 4) (by decide) (show n < 30 by omega)
      have c5 := lR_X gW (i := 5) (by decide) (show n < 30 by omega)
      have sT := sumL_take (f := cmF ln lv wb) hn
      rw [nI_x i (by omega), exW, nI_x n (by omega), evW, ewW, nI_eq b1 b2]
      refine ⟨c6, c4, c6, c5, fun eq => ?_, fun ne => ⟨hbd, ?_⟩⟩
      · have f0 : cmF ln lv wb n = 0 := if_pos eq
        rw [f0, Nat.add_zero] at sT
        unfold k_L_isCommitted_183
        rintro _ rfl
        rw [nI_add]
        refine ih _ c (Or.inl ⟨W, wW, oW, by rw [sT]; exact e4, by rw [sT]; exact e5, by rw [sT]; exact hD, fun j n' hj => ?_, rfl⟩)
        by_cases cj : j = i
        · subst cj
          rw [hn] at hj
          cases hj
          rw [if_pos (by omega), ewW, eq]
        · rw [e6 j n' hj]
          by_cases cl : j < i
          · rw [if_pos cl, if_pos (by omega)]
          · rw [if_neg cl, if_neg (by omega)]
      · have f1 : cmF ln lv wb n = 1 := if_neg ne
        rw [f1] at sT
        have sD : sumL (cmF ln lv wb) (ids.take (i + 1)) ≤ sumL (cmF ln lv wb) ids := sumL_tk
        have hw0 := lWn_0 (S := W) (m := ar 15) (w := w + sumL (cmF ln lv wb) (ids.take i)) e4 e5
        refine q_L_writes (gW.1 15 (by decide)) (gW.1 8 (by decide)) (gW.1 9 (by decide)) (gW.1 10 (by decide)) (lR_ne g (by decide) (by decide) (by decide)) (lR_ne g (by decide) (by decide) (by decide)) (lR_ne g (by decide) (by decide) (by decide)) (cc_map hcc) hw0 (fun U hk1 hU => ?_) (fun U hk0 hU => ?_)
        · obtain ⟨wU0, oU, u4, u5, -⟩ := hU
          have wU : lwT W U ([15].map ar) := wU0
          have gU := lR_w wU gW
          refine ⟨fun z => absurd z (by decide), fun _ => ?_⟩
          have exU : cI U (ar 6) i = nI n := by rw [lwI gW wU 6 rfl]; exact exW
          have evU : cI U (ar 4) n = nI (bN (lv n) (ln n)) := by rw [lwI gW wU 4 rfl]; exact evW
          unfold k_L_isCommitted_147 k_L_isCommitted_182
          rw [nI_x i (by omega), exU, nI_x n (by omega), evU]
          refine ⟨lR_X gU (i := 6) (by decide) (show i < 30 by omega), fun _ => ⟨lR_X gU (i := 6) (by decide) (show i < 30 by omega), lR_X gU (i := 4) (by decide) (show n < 30 by omega), lR_X gU (i := 5) (by decide) (show n < 30 by omega), fun S4 e4' => ?_⟩, fun z => absurd z hr2⟩
          have w4 : lwT U S4 ([5].map ar) := e4' ▸ lw_SI (by simp)
          have m15 : cI S4 (ar 15) = cI U (ar 15) := lwI gU w4 15 rfl
          unfold k_L_isCommitted_183
          rintro _ rfl
          rw [nI_add]
          refine ih _ c (Or.inl ⟨S4, lw_tr (lw_tr wW (wl6 wU rfl) (fun _ z => z)) (wl6 w4 rfl) (fun _ z => z), fun q hq => ?_, ?_, ?_, fun q hq => ?_, fun j n' hj => ?_, rfl⟩)
          · rw [m15, oU q hq, oW q hq]
          · rw [m15, sT]; exact u4
          · rw [m15, sT, u5]
            cases cc with
            | none => rfl
            | some q => show cIn (some (q - _ - (0 + 1))) = cIn (some (q - (_ + 1))); rw [Nat.sub_sub]
          · rw [sT]
            have h3 := hD q hq
            have h4 := hk1 (q - sumL (cmF ln lv wb) (ids.take i)) (by rw [hq]; rfl)
            omega
          · by_cases cj : j = i
            · subst cj
              rw [hn] at hj
              cases hj
              rw [if_pos (by omega), e4', cSI_s]
            · have hne : n' ≠ n := fun e => cj (nd_ix nd hj (e ▸ hn))
              rw [e4', cSI_o hne, lwI gW wU 5 rfl, e6 j n' hj]
              by_cases cl : j < i
              · rw [if_pos cl, if_pos (by omega)]
              · rw [if_neg cl, if_neg (by omega)]
        · refine ⟨fun _ => ?_, fun z => absurd rfl z⟩
          have hcd : cc = some (sumL (cmF ln lv wb) (ids.take i)) := by
            cases cc with
            | none => exact absurd hk0 (by simp)
            | some q =>
              have h3 := hD q rfl
              have h4 : q - sumL (cmF ln lv wb) (ids.take i) = 0 := Option.some.inj hk0
              congr 1
              omega
          have hV := dw_of wW oW hU
          have gU := lR_w hV.1 g
          have exU : cI U (ar 6) i = nI n := by rw [lwI g hV.1 6 rfl]; exact ex
          unfold k_L_isCommitted_147 k_L_isCommitted_182
          rw [nI_x i (by omega), exU, nI_x n (by omega)]
          refine ⟨lR_X gU (i := 6) (by decide) (show i < 30 by omega), fun z => absurd rfl z, fun _ => ⟨lR_X gU (i := 6) (by decide) (show i < 30 by omega), lR_X gU (i := 5) (by decide) (show n < 30 by omega), lR_X gU (i := 5) (by decide) (show n < 30 by omega), fun S4 e4' => ?_⟩⟩
          have w4 : lwT U S4 ([5].map ar) := e4' ▸ lw_SI (by simp)
          unfold k_L_isCommitted_183
          rintro _ rfl
          rw [nI_add]
          refine ih _ c (Or.inr ⟨S4, sumL (cmF ln lv wb) (ids.take i), hcd, by omega, ?_, rfl⟩)
          obtain ⟨wV, oV, hm, p0, q0, g0⟩ := hV
          refine ⟨lw_tr wV (wl6 w4 rfl) (fun _ z => z), fun q hq => by rw [lwI gU w4 15 rfl]; exact oV q hq, ?_, ?_, ?_, ?_⟩
          · rw [lwI gU w4 15 rfl]; exact hm
          · rw [lwI gU w4 8 rfl]; exact p0
          · rw [lwI gU w4 9 rfl]; exact q0
          · rw [lwI gU w4 10 rfl]; exact g0
  · show k_L_isCommitted_91 Q dp mc ms _ x (ar 4) (ar 5) (ar 6) (ar 8) (ar 9) (ar 10) (ar 15) (-2) (nI i) cd dd V
    have gV := lR_w hV.1 g
    unfold k_L_isCommitted_91
    rw [nI_x 3 (by decide), hV.2.2.1.2.2.2.1]
    exact ⟨lR_X gV (i := 15) (by decide) (by decide), fun _ => h2 V d hcd hdD hV, fun z => absurd ((nI_leI (by decide) (by omega)).mpr (Nat.zero_le i)) z⟩
end LZF
