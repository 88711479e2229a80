/-! a merge is begun: the law's list of what lives -/
section LW6
variable {S V T W : cS} {made p : Nat} {ar : Nat → Nat} {sl : Nat → List Nat} {ids : List Nat} {lv : Nat → Nat → Bool} {Y : List (Nat × Nat)}
def mgI (S W : cS) (ar : Nat → Nat) (p : Nat) (Y : List (Nat × Nat)) : Prop := lwT S W ([13, 15].map ar) ∧ rO S W (ar 15) [9, 10, 11, 12] ∧ (cI W (ar 15) 9 = nI 1 ∧ cI W (ar 15) 10 = nI p ∧ cI W (ar 15) 11 = nI 0 ∧ cI W (ar 15) 12 = nI Y.length) ∧ ∀ i z, Y[i]? = some z → cI W (ar 13) i = nI (16 * z.1 + z.2)
theorem fndJ_le {f : Nat → Bool} {n : Nat} (k : Nat) : (fndJ f n k).length ≤ k := Nat.le_trans (fndJ_len (fun _ e => e) k) (cntB_le f k)
theorem q_mg89 {Q : Int32 → cS → Prop} {dp mc ms cd dd x n : Nat} {t1 t2 : Int32} {i : Nat} {R77 : Nat → Nat → Nat → Nat → Nat → Nat → Int32 → Int32 → Int32 → Nat → Nat → cS → Prop} (g : lRow S ar) (gx : lXi S (ar 3) (ar 6) (ar 15) made sl ids) (hv : ∀ n, n ∈ ids → cI S (ar 4) n = nI (bN (lv n) (sl n).length)) (hn : ids[i]? = some n) (hY : Y.length ≤ 20) (hW : mgI S W ar p Y) (hk : ∀ U, mgI S U ar p (Y ++ fndJ (lv n) n (sl n).length) → R77 x (ar 3) (ar 4) (ar 6) (ar 13) (ar 15) t1 t2 (nI (i + 1)) cd dd U) : k_L_isMerged_89L Q dp mc ms R77 x (ar 3) (ar 4) (ar 6) (ar 13) (ar 15) t1 t2 (nI i) (nI 0) cd dd W := by
  obtain ⟨⟨-, exi⟩, ⟨-, ez, hz10⟩, i30, n30⟩ := lXi_X gx hn
  have ev := hv n (List.mem_of_getElem? hn)
  unfold k_L_isMerged_89L
  refine lfp_cnt (sl n).length (fun j y => ∃ U, mgI S U ar p (Y ++ fndJ (lv n) n j) ∧ y = (x, ar 3, ar 4, ar 6, ar 13, ar 15, t1, t2, nI i, nI j, cd, dd, U)) ?_ ⟨W, by rw [fndJ, List.append_nil]; exact hW, rfl⟩
  rintro P j _ hj ⟨U, hU, rfl⟩ ih
  show k_L_isMerged_89 Q dp mc ms R77 _ x (ar 3) (ar 4) (ar 6) (ar 13) (ar 15) t1 t2 (nI i) (nI j) cd dd U
  obtain ⟨wU, oU, ⟨m9, m10, m11, m12⟩, yU⟩ := id hU
  have gU := lR_w wU g
  have xU : cI U (ar 6) i = nI n := by rw [lwI g wU 6 rfl]; exact exi
  have zU : cI U (ar 3) n = nI (sl n).length := by rw [lwI g wU 3 rfl]; exact ez
  have vU : cI U (ar 4) n = nI (bN (lv n) (sl n).length) := by rw [lwI g wU 4 rfl]; exact ev
  unfold k_L_isMerged_89
  rw [nI_x i (by omega), xU, nI_x n (by omega), zU]
  refine ⟨lR_X gU (i := 6) (by decide) (show i < 30 by omega), lR_X gU (i := 3) (by decide) (show n < 30 by omega), pk_le (sl n).length j (fun c => ?_) (fun c => ?_)⟩
  · obtain rfl : j = (sl n).length := by omega
    rintro _ rfl
    rw [nI_add]
    exact hk U hU
  · have hlen : (Y ++ fndJ (lv n) n j).length ≤ 30 := by
      rw [List.length_append]
      have := fndJ_le (f := lv n) (n := n) j
      omega
    rw [vU, bN_bit c (by omega)]
    refine ⟨lR_X gU (i := 6) (by decide) (show i < 30 by omega), lR_X gU (i := 4) (by decide) (show n < 30 by omega), fun e => ?_, fun e => ?_⟩
    · have e0 : lv n j = false := by
        cases h : lv n j with
        | false => rfl
        | true => rw [h] at e; exact absurd rfl e
      unfold k_L_isMerged_145
      rintro _ rfl
      rw [nI_add]
      refine ih _ c ⟨U, ?_, rfl⟩
      rw [fndJ, e0, if_neg (by decide), List.append_nil]
      exact hU
    · have e1 : lv n j = true := by
        cases h : lv n j with
        | true => rfl
        | false => rw [h] at e; exact absurd e (by decide)
      rw [nI_x 12 (by decide), m12, nI_x (Y ++ fndJ (lv n) n j).length (by omega)]
      refine ⟨lR_X gU (i := 15) (by decide) (by decide), lR_X gU (i := 6) (by decide) (show i < 30 by omega), lR_X gU (i := 13) (by decide) (show (Y ++ fndJ (lv n) n j).length < 32 by omega), fun S1 e1' => ?_⟩
      have w1 : lwT U S1 ([13, 15].map ar) := e1' ▸ lw_SI (by simp)
      have g1 := lR_w w1 gU
      have m1 : cI S1 (ar 15) = cI U (ar 15) := by rw [e1']; exact cI_SI_ne (lR_ne g (by decide) (by decide) (by decide))
      rw [m1, m12, nI_add]
      refine ⟨lR_X g1 (i := 15) (by decide) (by decide), lR_X g1 (i := 15) (by decide) (by decide), fun S2 e2 => ?_⟩
      have w2 : lwT S1 S2 ([13, 15].map ar) := e2 ▸ lw_SI (by simp)
      have y2 : cI S2 (ar 13) = cI S1 (ar 13) := by rw [e2]; exact cI_SI_ne (lR_ne g (by decide) (by decide) (by decide))
      unfold k_L_isMerged_145
      rintro _ rfl
      rw [nI_add]
      refine ih _ c ⟨S2, ?_, rfl⟩
      rw [fndJ, e1, if_pos rfl, ← List.append_assoc]
      refine ⟨lw_tr (lw_tr wU w1 (fun _ z => z)) w2 (fun _ z => z), fun q hq => ?_, ⟨?_, ?_, ?_, ?_⟩, fun q z hz => ?_⟩
      · have hq' := hq
        simp at hq'
        rw [e2, cSI_o hq'.2.2.2, m1]
        exact oU q hq
      · rw [e2, cSI_o (by decide), m1]; exact m9
      · rw [e2, cSI_o (by decide), m1]; exact m10
      · rw [e2, cSI_o (by decide), m1]; exact m11
      · rw [e2, cSI_s]; congr 1; simp; omega
      · rw [y2, e1']
        by_cases cq : q = (Y ++ fndJ (lv n) n j).length
        · subst cq
          rw [List.getElem?_concat_length] at hz
          cases hz
          rw [cSI_s, pk_mul, nI_add]
        · have := get_lt hz
          rw [List.length_append] at this
          have this : q < (Y ++ fndJ (lv n) n j).length + 1 := this
          rw [List.getElem?_append_left (by omega)] at hz
          rw [cSI_o cq]
          exact yU q z hz
theorem mtL_snoc {sg : Nat → List Dc} {l : List Nat} {n : Nat} : mtL sg lv (l ++ [n]) = mtL sg lv l ++ fndJ (lv n) n (sg n).length := by
  unfold mtL
  rw [List.flatMap_append, List.flatMap_singleton]
theorem q_mg77 {Q : Int32 → cS → Prop} {dp mc ms cd dd x : Nat} {t2 : Int32} (g : lRow S ar) (gx : lXi S (ar 3) (ar 6) (ar 15) made sl ids) (hv : ∀ n, n ∈ ids → cI S (ar 4) n = nI (bN (lv n) (sl n).length)) (hp : p + 3 ≤ ids.length) (hW : mgI S W ar p []) (hk : ∀ U, mgI S U ar p (mtL (sgR sl) lv ((ids.drop p).take 3)) → k_L_isMerged_157 Q dp mc ms x (ar 15) t2 cd dd U) : k_L_isMerged_77L Q dp mc ms x (ar 3) (ar 4) (ar 6) (ar 13) (ar 15) (nI p) t2 (nI p) cd dd W := by
  have hid := gx.2.1.2
  unfold k_L_isMerged_77L
  refine lfp_cnt 3 (fun i y => ∃ U, mgI S U ar p (mtL (sgR sl) lv ((ids.drop p).take i)) ∧ (mtL (sgR sl) lv ((ids.drop p).take i)).length ≤ 10 * i ∧ y = (x, ar 3, ar 4, ar 6, ar 13, ar 15, nI p, t2, nI (p + i), cd, dd, U)) ?_ ⟨W, by rw [List.take_zero]; exact hW, by rw [List.take_zero]; exact Nat.le_refl _, rfl⟩
  rintro P i _ hi ⟨U, hU, hl, rfl⟩ ih
  show k_L_isMerged_77 Q dp mc ms _ x (ar 3) (ar 4) (ar 6) (ar 13) (ar 15) (nI p) t2 (nI (p + i)) cd dd U
  unfold k_L_isMerged_77
  rw [nI_add]
  refine pk_le (p + 3) (p + i) (fun c => ?_) (fun c => ?_)
  · obtain rfl : i = 3 := by omega
    exact hk U hU
  · obtain ⟨n, hn⟩ : ∃ n, ids[p + i]? = some n := ⟨_, List.getElem?_eq_getElem (by omega)⟩
    have ht : (ids.drop p).take (i + 1) = (ids.drop p).take i ++ [n] := by
      rw [List.take_succ, List.getElem?_drop, hn]
      rfl
    have hz := (lXi_X gx hn).2.1.2.2
    refine q_mg89 (made := made) (ids := ids) g gx hv hn (by omega) hU (fun T hT => ?_)
    refine ih _ (by omega) ⟨T, ?_, ?_, rfl⟩
    · rw [ht, mtL_snoc, sgR_len]
      exact hT
    · rw [ht, mtL_snoc, sgR_len, List.length_append]
      have := fndJ_le (f := lv n) (n := n) (sl n).length
      omega
end LW6
