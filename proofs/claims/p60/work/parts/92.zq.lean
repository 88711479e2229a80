/-! what the nine queries give: class and law -/
section LZS
variable {a l f t y : Nat} {sl : Nat → List Nat} {v : Vw} {nd : Nat → Nd} {m i : Nat} {rr : Nat → Nat}
theorem rarN_1 (p q : Nat) : 1 ≤ rarN p q := by
  unfold rarN
  generalize (p + 1) / (q + 1) = k
  cases k with
  | zero => exact Nat.le_refl _
  | succ k =>
    show 1 ≤ if k + 1 ≤ 1 then 1 else rarL k ((k + 1) / 2) + 1
    split <;> omega
theorem ga_1 (hl : l < 9) : 1 ≤ gaN sl v l := by
  have h := fun f t => rarN_1 (alS sl v v.1) (hvS sl v f t v.1)
  have e : ∀ f t, raS sl v f t = rarN (alS sl v v.1) (hvS sl v f t v.1) := fun _ _ => rfl
  unfold gaN
  have a1 := h 0 0
  have a2 := h 1 2
  have a3 := h 0 2
  have a4 := h 0 3
  have a5 := h 0 4
  rw [← e] at a1 a2 a3 a4 a5
  (repeat' split) <;> omega
theorem st_1p {c : Nat} (h : 0 < c) : 1 ≤ stN c := by
  unfold stN
  rw [if_neg (by omega)]
  exact (Nat.le_div_iff_mul_le (by omega)).mpr (by omega)
theorem gi_0 (hl : l < 9) : giN (gaN sl v) a l = 0 ↔ lcN a l = 0 := by
  unfold giN
  constructor
  · intro h
    rcases Nat.eq_zero_or_pos (lcN a l) with c | c
    · exact c
    · exfalso
      have h1 := ga_1 (sl := sl) (v := v) hl
      have h2 := st_1p c
      rw [if_neg (by omega)] at h
      split at h
      · omega
      · have := Nat.mul_le_mul h2 h1
        omega
  · intro h
    rw [if_pos h]
/-- how rare a leaf of tokens is -/
theorem rr_t (hf : f < 2) (ht : t < 5) (hl : ∀ n, n ∈ v.1 → (sl n).length ≤ 10) : rarN (allN (sgR sl) v.2 v.1) (hvN (sgR sl) v.2 v.1 f (tcN t)) = raS sl v f t := by
  unfold raS
  rw [hv_eq hf ht hl]
  congr 1
  exact sumL_ext (fun n hn => by rw [sgR_len])
theorem gv_l (hl : l < 9) (h10 : ∀ n, n ∈ v.1 → (sl n).length ≤ 10) {c : Nat} (hc : 0 < c) : gvN 3 1 (rrN (sgR sl) v.2 v.1 (ndL l)) (ndL l) c = if 4 ≤ l ∧ l ≤ 6 then gaN sl v l else stN c * gaN sl v l := by
  have hs : stN c = 64 * c / (c + 1) := if_neg (by omega)
  have r1 : ∀ f t, f < 2 → t < 5 → 0 + rarN (allN (sgR sl) v.2 v.1) (hvN (sgR sl) v.2 v.1 f (tcN t)) = raS sl v f t := fun f t hf ht => by rw [Nat.zero_add]; exact rr_t hf ht h10
  have r2 : ∀ f t u, f < 2 → t < 5 → u < 5 → 0 + rarN (allN (sgR sl) v.2 v.1) (hvN (sgR sl) v.2 v.1 f (tcN t)) + rarN (allN (sgR sl) v.2 v.1) (hvN (sgR sl) v.2 v.1 f (tcN u)) = raS sl v f t + raS sl v f u := fun f t u hf ht hu => by rw [Nat.zero_add, rr_t hf ht h10, rr_t hf hu h10]
  have : l = 0 ∨ l = 1 ∨ l = 2 ∨ l = 3 ∨ l = 4 ∨ l = 5 ∨ l = 6 ∨ l = 7 ∨ l = 8 := by omega
  rcases this with rfl | rfl | rfl | rfl | rfl | rfl | rfl | rfl | rfl
  · show 3 * (64 * c / (c + 1)) * (0 + rarN (allN (sgR sl) v.2 v.1) (hvN (sgR sl) v.2 v.1 0 (tcN 0))) = stN c * (3 * raS sl v 0 0)
    rw [r1 0 0 (by decide) (by decide), hs, Nat.mul_comm 3, Nat.mul_assoc]
  · show 1 * (64 * c / (c + 1)) * (0 + rarN (allN (sgR sl) v.2 v.1) (hvN (sgR sl) v.2 v.1 1 (tcN 2))) = stN c * raS sl v 1 2
    rw [r1 1 2 (by decide) (by decide), hs, Nat.one_mul]
  · show 3 * (64 * c / (c + 1)) * (0 + rarN (allN (sgR sl) v.2 v.1) (hvN (sgR sl) v.2 v.1 0 (tcN 0)) + rarN (allN (sgR sl) v.2 v.1) (hvN (sgR sl) v.2 v.1 0 (tcN 2))) = stN c * (3 * (raS sl v 0 0 + raS sl v 0 2))
    rw [r2 0 0 2 (by decide) (by decide) (by decide), hs, Nat.mul_comm 3, Nat.mul_assoc]
  · show 3 * (64 * c / (c + 1)) * (0 + rarN (allN (sgR sl) v.2 v.1) (hvN (sgR sl) v.2 v.1 0 (tcN 0)) + rarN (allN (sgR sl) v.2 v.1) (hvN (sgR sl) v.2 v.1 0 (tcN 3))) = stN c * (3 * (raS sl v 0 0 + raS sl v 0 3))
    rw [r2 0 0 3 (by decide) (by decide) (by decide), hs, Nat.mul_comm 3, Nat.mul_assoc]
  · rfl
  · rfl
  · rfl
  · show 3 * (64 * c / (c + 1)) * (0 + rarN (allN (sgR sl) v.2 v.1) (hvN (sgR sl) v.2 v.1 0 (tcN 3))) = stN c * (3 * raS sl v 0 3)
    rw [r1 0 3 (by decide) (by decide), hs, Nat.mul_comm 3, Nat.mul_assoc]
  · show 3 * (64 * c / (c + 1)) * (0 + rarN (allN (sgR sl) v.2 v.1) (hvN (sgR sl) v.2 v.1 0 (tcN 4))) = stN c * (3 * raS sl v 0 4)
    rw [r1 0 4 (by decide) (by decide), hs, Nat.mul_comm 3, Nat.mul_assoc]
theorem pc_0 {m : Nat} (h : ∀ p, 20 ≤ p → m.testBit p = false) : pcN m 20 = 0 ↔ m = 0 := by
  rw [pc_cnt]
  constructor
  · intro e
    refine Nat.eq_of_testBit_eq (fun p => ?_)
    rw [Nat.zero_testBit]
    rcases Nat.lt_or_ge p 20 with c | c
    · cases z : m.testBit p with
      | false => rfl
      | true => have := cnt_pos (f := fun p => m.testBit p) c z; omega
    · exact h p c
  · rintro rfl
    exact cntB_zero (fun p _ => Nat.zero_testBit p)
theorem mkO_hi (p : Nat) (hp : 20 ≤ p) : (mkO (dcR a) (ndL l)).testBit p = false := by
  unfold mkO
  split
  · exact Nat.testBit_lt_two_pow (Nat.lt_of_lt_of_le cpF_lt (Nat.pow_le_pow_right (by decide) hp))
  · cases z : (tdK (tdI (ndL l)) (dT (dcR a) (nF (ndL l)))).testBit p with
    | false => rfl
    | true =>
      exfalso
      obtain ⟨c, -, h2⟩ := tdK_tb.mp z
      have gen : ∀ f, (c, p) ∈ tkA a f 5 → False := fun f hf => by
        obtain ⟨p', hp', h3⟩ := List.mem_flatMap.mp hf
        have hc := tkJ_in h3
        have := List.mem_range.mp hp'
        simp only [WL6, List.mem_cons, List.not_mem_nil, or_false] at hc
        rcases hc with e | e | e | e | e <;> (subst e; have := ((tkJ_B (by decide)).mp h3).1; omega)
      unfold dT at h2
      split at h2
      · exact gen 0 h2
      · exact gen 1 h2
/-- what a leaf gives -/
theorem gv_lf (hl : l < 9) (h10 : ∀ n, n ∈ v.1 → (sl n).length ≤ 10) (hd : lfD nd m i = ndL l) (hr : rr i = rrN (sgR sl) v.2 v.1 (ndL l)) : gvF nd m 3 1 rr (fun i => mkO (dcR a) (lfD nd m i)) i = if giN (gaN sl v) a l = 0 then none else some (giN (gaN sl v) a l) := by
  have key : ∀ (d : Nd) (r : Nat), d = ndL l → r = rrN (sgR sl) v.2 v.1 (ndL l) → (if mkO (dcR a) d = 0 then none else some (gvN 3 1 r d (pcN (mkO (dcR a) d) 20))) = if giN (gaN sl v) a l = 0 then none else some (giN (gaN sl v) a l) := fun d r e1 e2 => by
    subst e1 e2
    rw [lf_cnt hl]
    have e0 : mkO (dcR a) (ndL l) = 0 ↔ lcN a l = 0 := by rw [← pc_0 (fun p hp => mkO_hi p hp), lf_cnt hl]
    by_cases c : lcN a l = 0
    · rw [if_pos (e0.mpr c), if_pos ((gi_0 hl).mpr c)]
    · rw [if_neg (fun z => c (e0.mp z)), if_neg (fun z => c ((gi_0 hl).mp z)), gv_l hl h10 (Nat.pos_of_ne_zero c)]
      unfold giN
      rw [if_neg c]
  exact key _ _ hd hr
/-- the queries by leaves -/
def q1L (l : Nat) : Nat × (Nat → Nd) := (1, upR nd0 0 (ndL l))
def q7L : Nat × (Nat → Nd) := (4, upR (upR (upR (upR nd0 0 (ndL 0)) 1 (ndL 1)) 2 (ndL 7)) 3 ((6, 0, 1, 3), false, [], [], 0))
def q8L : Nat × (Nat → Nd) := (5, upR (upR (upR (upR (upR nd0 0 (ndL 0)) 1 (ndL 8)) 2 ((6, 0, 2, 2), false, [], [], 0)) 3 (ndL 1)) 4 ((7, 0, 1, 2), false, [], [], 0))
theorem qs6_L : qs6 = [q1L 0, q1L 1, q1L 2, q1L 3, q1L 4, q1L 5, q1L 6, q7L, q8L] := rfl
def opN (r : Nat) : Option Nat := if r = 0 then none else some r
theorem vl_1 (hl : l < 7) (h10 : ∀ n, n ∈ v.1 → (sl n).length ≤ 10) : evS (q1L l).2 (gvF (q1L l).2 (q1L l).1 3 1 (rrL (q1L l).2 (q1L l).1 (sgR sl) v.2 v.1) (fun i => mkO (dcR a) (lfD (q1L l).2 (q1L l).1 i))) (q1L l).1 0 = opN (rkN (gaN sl v) a l) := by
  have e : rkN (gaN sl v) a l = giN (gaN sl v) a l := by unfold rkN; rw [if_pos hl]
  rw [e]
  have : l = 0 ∨ l = 1 ∨ l = 2 ∨ l = 3 ∨ l = 4 ∨ l = 5 ∨ l = 6 := by omega
  rcases this with rfl | rfl | rfl | rfl | rfl | rfl | rfl <;> exact gv_lf (i := 0) (by decide) h10 rfl rfl
theorem jn_7 {x y z : Option Nat} (d : Nd) (w : Nat → Option Nat) (hk : nK d = 6) (hp : nP d = 3) (hl : nL d = 1) (h0 : w 0 = x) (h1 : w 1 = y) (h2 : w 2 = z) : jn d w 0 = if x.isNone && y.isNone && z.isNone then none else some (x.getD 0 + y.getD 0 + z.getD 0) := by
  subst h0 h1 h2
  have ejc : jc w 0 3 = 0 + (if (w 0).isSome = true then 1 else 0) + (if (w 1).isSome = true then 1 else 0) + (if (w 2).isSome = true then 1 else 0) := rfl
  have ejs : js w 0 3 = 0 + (w 0).getD 0 + (w 1).getD 0 + (w 2).getD 0 := rfl
  unfold jn
  rw [hk, hp, hl, if_neg (by decide), ejc, ejs]
  cases w 0 <;> cases w 1 <;> cases w 2 <;> simp
theorem vl_7 (h10 : ∀ n, n ∈ v.1 → (sl n).length ≤ 10) : evS q7L.2 (gvF q7L.2 q7L.1 3 1 (rrL q7L.2 q7L.1 (sgR sl) v.2 v.1) (fun i => mkO (dcR a) (lfD q7L.2 q7L.1 i))) q7L.1 0 = opN (rkN (gaN sl v) a 7) := by
  have g0 := gv_lf (a := a) (l := 0) (nd := q7L.2) (m := q7L.1) (i := 0) (rr := rrL q7L.2 q7L.1 (sgR sl) v.2 v.1) (by decide) h10 rfl rfl
  have g1 := gv_lf (a := a) (l := 1) (nd := q7L.2) (m := q7L.1) (i := 1) (rr := rrL q7L.2 q7L.1 (sgR sl) v.2 v.1) (by decide) h10 rfl rfl
  have g2 := gv_lf (a := a) (l := 7) (nd := q7L.2) (m := q7L.1) (i := 2) (rr := rrL q7L.2 q7L.1 (sgR sl) v.2 v.1) (by decide) h10 rfl rfl
  have e : rkN (gaN sl v) a 7 = giN (gaN sl v) a 0 + giN (gaN sl v) a 1 + giN (gaN sl v) a 7 := rfl
  rw [e]
  generalize gvF q7L.2 q7L.1 3 1 (rrL q7L.2 q7L.1 (sgR sl) v.2 v.1) (fun i => mkO (dcR a) (lfD q7L.2 q7L.1 i)) = gv at g0 g1 g2 ⊢
  have e2 : evS q7L.2 gv q7L.1 0 = jn ((6, 0, 1, 3), false, [], [], 0) (evS q7L.2 gv 3) 0 := rfl
  rw [e2, jn_7 _ _ rfl rfl rfl (show evS q7L.2 gv 3 0 = gv 0 from rfl) (show evS q7L.2 gv 3 1 = gv 1 from rfl) (show evS q7L.2 gv 3 2 = gv 2 from rfl), g0, g1, g2]
  generalize giN (gaN sl v) a 0 = x
  generalize giN (gaN sl v) a 1 = y
  generalize giN (gaN sl v) a 7 = z
  unfold opN
  by_cases cx : x = 0 <;> by_cases cy : y = 0 <;> by_cases cz : z = 0 <;> simp [cx, cy, cz]
theorem jn_2 {x y : Option Nat} (d : Nd) (w : Nat → Option Nat) (hk : nK d = 6) (hp : nP d = 2) (hl : nL d = 2) (h0 : w 0 = x) (h1 : w 1 = y) : jn d w 0 = if x.isSome && y.isSome then some (x.getD 0 + y.getD 0) else none := by
  subst h0 h1
  have ejc : jc w 0 2 = 0 + (if (w 0).isSome = true then 1 else 0) + (if (w 1).isSome = true then 1 else 0) := rfl
  have ejs : js w 0 2 = 0 + (w 0).getD 0 + (w 1).getD 0 := rfl
  unfold jn
  rw [hk, hp, hl, if_neg (by decide), ejc, ejs]
  cases w 0 <;> cases w 1 <;> simp
theorem jn_b {x y : Option Nat} (d : Nd) (w : Nat → Option Nat) (hk : nK d = 7) (hp : nP d = 2) (h0 : w 0 = x) (h1 : w 1 = y) : jn d w 0 = if y.isSome then none else x := by
  subst h0 h1
  have ejc : jc w 0 2 = 0 + (if (w 0).isSome = true then 1 else 0) + (if (w 1).isSome = true then 1 else 0) := rfl
  unfold jn
  rw [hk, hp, if_pos rfl, ejc]
  cases w 0 <;> cases w 1 <;> simp
theorem vl_8 (h10 : ∀ n, n ∈ v.1 → (sl n).length ≤ 10) : evS q8L.2 (gvF q8L.2 q8L.1 3 1 (rrL q8L.2 q8L.1 (sgR sl) v.2 v.1) (fun i => mkO (dcR a) (lfD q8L.2 q8L.1 i))) q8L.1 0 = opN (rkN (gaN sl v) a 8) := by
  have g0 := gv_lf (a := a) (l := 0) (nd := q8L.2) (m := q8L.1) (i := 0) (rr := rrL q8L.2 q8L.1 (sgR sl) v.2 v.1) (by decide) h10 rfl rfl
  have g1 := gv_lf (a := a) (l := 8) (nd := q8L.2) (m := q8L.1) (i := 1) (rr := rrL q8L.2 q8L.1 (sgR sl) v.2 v.1) (by decide) h10 rfl rfl
  have g2 := gv_lf (a := a) (l := 1) (nd := q8L.2) (m := q8L.1) (i := 2) (rr := rrL q8L.2 q8L.1 (sgR sl) v.2 v.1) (by decide) h10 rfl rfl
  have e : rkN (gaN sl v) a 8 = if 0 < giN (gaN sl v) a 0 ∧ 0 < giN (gaN sl v) a 8 ∧ giN (gaN sl v) a 1 = 0 then giN (gaN sl v) a 0 + giN (gaN sl v) a 8 else 0 := rfl
  rw [e]
  generalize gvF q8L.2 q8L.1 3 1 (rrL q8L.2 q8L.1 (sgR sl) v.2 v.1) (fun i => mkO (dcR a) (lfD q8L.2 q8L.1 i)) = gv at g0 g1 g2 ⊢
  have e2 : evS q8L.2 gv q8L.1 0 = jn ((7, 0, 1, 2), false, [], [], 0) (evS q8L.2 gv 4) 0 := rfl
  have e3 : evS q8L.2 gv 4 0 = jn ((6, 0, 2, 2), false, [], [], 0) (evS q8L.2 gv 2) 0 := rfl
  have e4 : evS q8L.2 gv 4 1 = gv 2 := rfl
  rw [e2, jn_b _ _ rfl rfl e3 e4, jn_2 _ _ rfl rfl rfl (show evS q8L.2 gv 2 0 = gv 0 from rfl) (show evS q8L.2 gv 2 1 = gv 1 from rfl), g0, g1, g2]
  generalize giN (gaN sl v) a 0 = x
  generalize giN (gaN sl v) a 8 = y
  generalize giN (gaN sl v) a 1 = z
  unfold opN
  by_cases cx : x = 0 <;> by_cases cy : y = 0 <;> by_cases cz : z = 0 <;> simp [cx, cy, cz, Nat.pos_of_ne_zero]
/-- what a query gives for a document -/
theorem vl_y (hy : y < 9) (h10 : ∀ n, n ∈ v.1 → (sl n).length ≤ 10) {e : Nat × (Nat → Nd)} (he : qs6[y]? = some e) {n j : Nat} (hj : (sl n)[j]? = some a) : vlN e.2 e.1 3 1 (rrL e.2 e.1 (sgR sl) v.2 v.1) (sgR sl n) j = opN (rkN (gaN sl v) a y) := by
  rw [vlN_O (sgR_get.mpr ⟨a, hj, rfl⟩)]
  have : y = 0 ∨ y = 1 ∨ y = 2 ∨ y = 3 ∨ y = 4 ∨ y = 5 ∨ y = 6 ∨ y = 7 ∨ y = 8 := by omega
  rcases this with rfl | rfl | rfl | rfl | rfl | rfl | rfl | rfl | rfl <;> (obtain rfl := Option.some.inj he)
  · exact vl_1 (l := 0) (by decide) h10
  · exact vl_1 (l := 1) (by decide) h10
  · exact vl_1 (l := 2) (by decide) h10
  · exact vl_1 (l := 3) (by decide) h10
  · exact vl_1 (l := 4) (by decide) h10
  · exact vl_1 (l := 5) (by decide) h10
  · exact vl_1 (l := 6) (by decide) h10
  · exact vl_7 h10
  · exact vl_8 h10
end LZS
