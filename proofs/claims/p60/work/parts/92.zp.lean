/-! the law's nine leaves -/
def ndL (l : Nat) : Nd := if l = 0 then ((0, 0, 0, 0), false, [(tcN 0, 0)], [], 0) else if l = 1 then ((0, 1, 0, 0), false, [(tcN 2, 0)], [], 0) else if l = 2 then ((1, 0, 1, 0), false, [(tcN 0, 0), (tcN 2, 2)], [], 0) else if l = 3 then ((2, 0, 2, 0), false, [(tcN 0, 0), (tcN 3, 1)], [], 0) else if l = 4 then ((3, 0, 0, 0), false, [], [], wdc [114, 117] 0) else if l = 5 then ((4, 1, 0, 0), false, [], [37, pfN 111, 38, pfN 115], 0) else if l = 6 then ((5, 0, 1, 0), false, [], [], wdc [99, 111, 116] 0) else if l = 7 then ((0, 0, 0, 0), false, [(tcN 3, 0)], [], 0) else ((0, 0, 0, 0), false, [(tcN 4, 0)], [], 0)
/-- the patterns' and the edits' reference by a count of steps -/
def mtS (pt w : Nat → Nat) : Nat → Nat → Nat → Bool
  | 0, _, _ => false
  | _ + 1, 0, j => decide (j = 0)
  | n + 1, k + 1, 0 => decide (pt k = 38) && mtS pt w n k 0
  | n + 1, k + 1, j + 1 => if pt k = 38 then mtS pt w n k (j + 1) || mtS pt w n (k + 1) j else mtS pt w n k j && (decide (pt k = 37) || decide (pt k = w j))
theorem mtS_eq {pt w : Nat → Nat} : ∀ {n k j : Nat}, k + j < n → mtR pt w k j = mtS pt w n k j
  | 0, _, _, h => absurd h (Nat.not_lt_zero _)
  | n + 1, 0, j, _ => by rw [mtR, mtS]
  | n + 1, k + 1, 0, h => by rw [mtR, mtS, mtS_eq (n := n) (k := k) (j := 0) (by omega)]
  | n + 1, k + 1, j + 1, h => by rw [mtR, mtS, mtS_eq (n := n) (k := k) (j := j + 1) (by omega), mtS_eq (n := n) (k := k + 1) (j := j) (by omega), mtS_eq (n := n) (k := k) (j := j) (by omega)]
def edS (a b : Nat → Nat) : Nat → Nat → Nat → Nat
  | 0, _, _ => 0
  | _ + 1, 0, j => j
  | _ + 1, i + 1, 0 => i + 1
  | n + 1, i + 1, j + 1 => min (min (edS a b n i (j + 1)) (edS a b n (i + 1) j) + 1) (edS a b n i j + (if a i = b j then 0 else 1))
theorem edS_eq {a b : Nat → Nat} : ∀ {n i j : Nat}, i + j < n → edR a b i j = edS a b n i j
  | 0, _, _, h => absurd h (Nat.not_lt_zero _)
  | n + 1, 0, j, _ => by rw [edR, edS]
  | n + 1, i + 1, 0, _ => by rw [edR, edS]
  | n + 1, i + 1, j + 1, h => by rw [edR, edS, edS_eq (n := n) (i := i) (j := j + 1) (by omega), edS_eq (n := n) (i := i + 1) (j := j) (by omega), edS_eq (n := n) (i := i) (j := j) (by omega)]
section LZR
variable {a l f t : Nat}
theorem ln_0 : lnW (tcW 0) = 3 := lnW_eq (by decide) (by decide +kernel) (fun _ => by decide +kernel)
theorem ln_1 : lnW (tcW 1) = 4 := lnW_eq (by decide) (by decide +kernel) (fun _ => by decide +kernel)
theorem ln_2 : lnW (tcW 2) = 3 := lnW_eq (by decide) (by decide +kernel) (fun _ => by decide +kernel)
theorem ln_3 : lnW (tcW 3) = 4 := lnW_eq (by decide) (by decide +kernel) (fun _ => by decide +kernel)
theorem ln_4 : lnW (tcW 4) = 4 := lnW_eq (by decide) (by decide +kernel) (fun _ => by decide +kernel)
theorem ln_ru : lnW (wdc [114, 117] 0) = 2 := lnW_eq (by decide) (by decide +kernel) (fun _ => by decide +kernel)
theorem ln_cot : lnW (wdc [99, 111, 116] 0) = 3 := lnW_eq (by decide) (by decide +kernel) (fun _ => by decide +kernel)
theorem td_t (d : Nd) (ht : t < 5) : tdI d (tcN t) = tdB d (tcW t) := by
  unfold tdI tcN
  rw [lN_nat]
  have : t = 0 ∨ t = 1 ∨ t = 2 ∨ t = 3 ∨ t = 4 := by omega
  rcases this with rfl | rfl | rfl | rfl | rfl <;> decide +kernel
theorem pt_4 : ptN (ndL 4) = [dg (wdc [114, 117] 0) 0, dg (wdc [114, 117] 0) 1, 38] := by
  show (if (3 : Nat) = 3 then (List.range (lnW (wdc [114, 117] 0))).map (dg (wdc [114, 117] 0)) ++ [38] else _) = _
  rw [if_pos rfl, ln_ru]
  rfl
theorem td_4 (ht : t < 5) : tdI (ndL 4) (tcN t) = decide (t = 1) := by
  rw [td_t _ ht]
  have e : ∀ w, tdB (ndL 4) w = mtR (fun k => [dg (wdc [114, 117] 0) 0, dg (wdc [114, 117] 0) 1, 38].getD k 0) (dg w) 3 (lnW w) := fun w => by
    show mtR (fun k => (ptN (ndL 4)).getD k 0) (dg w) (ptN (ndL 4)).length (lnW w) = _
    rw [pt_4]
    rfl
  rw [e]
  have : t = 0 ∨ t = 1 ∨ t = 2 ∨ t = 3 ∨ t = 4 := by omega
  rcases this with rfl | rfl | rfl | rfl | rfl
  · rw [ln_0, mtS_eq (n := 20) (by decide)]; decide +kernel
  · rw [ln_1, mtS_eq (n := 20) (by decide)]; decide +kernel
  · rw [ln_2, mtS_eq (n := 20) (by decide)]; decide +kernel
  · rw [ln_3, mtS_eq (n := 20) (by decide)]; decide +kernel
  · rw [ln_4, mtS_eq (n := 20) (by decide)]; decide +kernel
theorem td_5 (ht : t < 5) : tdI (ndL 5) (tcN t) = decide (t = 4) := by
  rw [td_t _ ht]
  have e : ∀ w, tdB (ndL 5) w = mtR (fun k => [37, pfN 111, 38, pfN 115].getD k 0) (dg w) 4 (lnW w) := fun w => rfl
  rw [e]
  have : t = 0 ∨ t = 1 ∨ t = 2 ∨ t = 3 ∨ t = 4 := by omega
  rcases this with rfl | rfl | rfl | rfl | rfl
  · rw [ln_0, mtS_eq (n := 20) (by decide)]; decide +kernel
  · rw [ln_1, mtS_eq (n := 20) (by decide)]; decide +kernel
  · rw [ln_2, mtS_eq (n := 20) (by decide)]; decide +kernel
  · rw [ln_3, mtS_eq (n := 20) (by decide)]; decide +kernel
  · rw [ln_4, mtS_eq (n := 20) (by decide)]; decide +kernel
theorem td_6 (ht : t < 5) : tdI (ndL 6) (tcN t) = decide (t = 0) := by
  rw [td_t _ ht]
  have e : ∀ w, tdB (ndL 6) w = decide (edR (dg w) (dg (wdc [99, 111, 116] 0)) (lnW w) 3 ≤ 1) := fun w => by
    show decide (edR (dg w) (dg (wdc [99, 111, 116] 0)) (lnW w) (lnW (wdc [99, 111, 116] 0)) ≤ 1) = _
    rw [ln_cot]
  rw [e]
  have : t = 0 ∨ t = 1 ∨ t = 2 ∨ t = 3 ∨ t = 4 := by omega
  rcases this with rfl | rfl | rfl | rfl | rfl
  · rw [ln_0, edS_eq (n := 20) (by decide)]; decide +kernel
  · rw [ln_1, edS_eq (n := 20) (by decide)]; decide +kernel
  · rw [ln_2, edS_eq (n := 20) (by decide)]; decide +kernel
  · rw [ln_3, edS_eq (n := 20) (by decide)]; decide +kernel
  · rw [ln_4, edS_eq (n := 20) (by decide)]; decide +kernel
/-- how often a leaf holds in a document -/
theorem lf_cnt (hl : l < 9) : pcN (mkO (dcR a) (ndL l)) 20 = lcN a l := by
  have : l = 0 ∨ l = 1 ∨ l = 2 ∨ l = 3 ∨ l = 4 ∨ l = 5 ∨ l = 6 ∨ l = 7 ∨ l = 8 := by omega
  rcases this with rfl | rfl | rfl | rfl | rfl | rfl | rfl | rfl | rfl
  · exact lf_term (a := a) (f := 0) (t := 0) (by decide)
  · exact lf_term (a := a) (f := 1) (t := 2) (by decide)
  · exact lf_phr
  · exact lf_near
  · exact lf_told (a := a) (f := 0) (g := tdI (ndL 4)) (T := 1) (by decide) (fun t ht => td_4 ht)
  · exact lf_told (a := a) (f := 1) (g := tdI (ndL 5)) (T := 4) (by decide) (fun t ht => td_5 ht)
  · exact lf_told (a := a) (f := 0) (g := tdI (ndL 6)) (T := 0) (by decide) (fun t ht => td_6 ht)
  · exact lf_term (a := a) (f := 0) (t := 3) (by decide)
  · exact lf_term (a := a) (f := 0) (t := 4) (by decide)
/-- whether a token stands in a field -/
theorem pm_0 (ht : t < 5) : (pmk (tcN t) (tkA a f 5) == 0) = decide (cuN a f t = 0) := by
  rw [Bool.eq_iff_iff, beq_iff_eq, decide_eq_true_eq]
  constructor
  · intro h
    exact cntB_zero (fun p _ => by rw [← mk_tb ht, h, Nat.zero_testBit])
  · intro h
    refine Nat.eq_of_testBit_eq (fun p => ?_)
    rw [mk_tb ht, Nat.zero_testBit]
    rcases Nat.lt_or_ge p 5 with c | c
    · cases e : hsN a f p t with
      | false => rfl
      | true =>
        have := cnt_pos (f := fun p => hsN a f p t) c e
        unfold cuN at h
        omega
    · exact hs_5 c
theorem hv_eq {sl : Nat → List Nat} {v : Vw} {ids : List Nat} (hf : f < 2) (ht : t < 5) (hl : ∀ n, n ∈ ids → (sl n).length ≤ 10) : hvN (sgR sl) v.2 ids f (tcN t) = hvS sl v f t ids := sumL_ext (fun n hn => by
  unfold hvC
  have h10 := hl n hn
  rw [sgR_len, show (100 : Nat) = (sl n).length + (100 - (sl n).length) by omega, cntB_out (fun i hi => by rw [decide_eq_false (by omega), Bool.false_and, Bool.and_false])]
  refine cntB_ext (fun j hj => ?_)
  unfold hvB mF
  have ha : (sl n)[j]? = some ((sl n).getD j 0) := by rw [List.getD_eq_getElem?_getD, List.getElem?_eq_getElem hj]; rfl
  rw [tlD_at (sgR_get.mpr ⟨_, ha, rfl⟩), decide_eq_true hj, Bool.true_and]
  have hT : dT (dcR ((sl n).getD j 0)) f = tkA ((sl n).getD j 0) f 5 := by
    have : f = 0 ∨ f = 1 := by omega
    rcases this with rfl | rfl <;> rfl
  rw [hT, pm_0 ht, Bool.and_comm]
  refine congrArg (fun z => v.2 n j && z) ?_
  rw [← decide_not]
  exact decide_eq_decide.mpr (by omega))
end LZR
