/-! bounds, and the best hits: class and law -/
section LZT
variable {a b t l y : Nat} {sl : Nat → List Nat} {v : Vw} {nd : Nat → Nd} {m i : Nat} {rr : Nat → Nat}
theorem mxB_ext {f g : Nat → Nat} : ∀ {n : Nat}, (∀ k, k < n → f k = g k) → mxB f n = mxB g n
  | 0, _ => rfl
  | n + 1, h => by
    show max (mxB f n) (f n) = max (mxB g n) (g n)
    rw [mxB_ext (n := n) (fun k hk => h k (by omega)), h n (by omega)]
theorem fs_l {n j : Nat} (hl : l < 9) (hj : (sl n)[j]? = some a) : pcN (fsA (sgR sl n) (ndL l) j) 20 = itN a l := by
  have hd : (sgR sl n)[j]? = some (dcR a) := sgR_get.mpr ⟨a, hj, rfl⟩
  have term : ∀ f t, t < 5 → f < 2 → pcN (mF (sgR sl n) f (tcN t) j) 20 = cuN a f t := fun f t ht hf => by
    unfold mF
    rw [tlD_at hd]
    have hT : dT (dcR a) f = tkA a f 5 := by
      have : f = 0 ∨ f = 1 := by omega
      rcases this with rfl | rfl <;> rfl
    rw [hT, pc_cnt]
    show _ = cntB (fun p => hsN a f p t) 5
    rw [← cntB_out (f := fun p => hsN a f p t) (K := 5) (fun p hp => hs_5 hp) 15]
    exact cntB_ext (fun p _ => mk_tb ht)
  have told : ∀ g : Int64 → Bool, ∀ f, tdK g (tlD (sgR sl n) f j) = tdK g (dT (dcR a) f) := fun g f => by rw [tlD_at hd]
  have : l = 0 ∨ l = 1 ∨ l = 2 ∨ l = 3 ∨ l = 4 ∨ l = 5 ∨ l = 6 ∨ l = 7 ∨ l = 8 := by omega
  rcases this with rfl | rfl | rfl | rfl | rfl | rfl | rfl | rfl | rfl
  · exact term 0 0 (by decide) (by decide)
  · exact term 1 2 (by decide) (by decide)
  · exact term 0 0 (by decide) (by decide)
  · exact term 0 0 (by decide) (by decide)
  · show pcN (tdK (tdI (ndL 4)) (tlD (sgR sl n) 0 j)) 20 = _
    rw [told]
    exact lf_told (a := a) (f := 0) (g := tdI (ndL 4)) (T := 1) (by decide) (fun t ht => td_4 ht)
  · show pcN (tdK (tdI (ndL 5)) (tlD (sgR sl n) 1 j)) 20 = _
    rw [told]
    exact lf_told (a := a) (f := 1) (g := tdI (ndL 5)) (T := 4) (by decide) (fun t ht => td_5 ht)
  · show pcN (tdK (tdI (ndL 6)) (tlD (sgR sl n) 0 j)) 20 = _
    rw [told]
    exact lf_told (a := a) (f := 0) (g := tdI (ndL 6)) (T := 0) (by decide) (fun t ht => td_6 ht)
  · exact term 0 3 (by decide) (by decide)
  · exact term 0 4 (by decide) (by decide)
theorem mo_l {n : Nat} (hl : l < 9) (ht : t ≤ (sl n).length) : mxB (fun k => pcN (fsA (sgR sl n) (ndL l) (b + k)) 20) (t - b) = moN (sl n) b t l := mxB_ext (fun k hk => by
  have e : (sl n)[b + k]? = some ((sl n).getD (b + k) 0) := by rw [List.getD_eq_getElem?_getD, List.getElem?_eq_getElem (by omega)]; rfl
  exact fs_l hl e)
theorem bd_1 {n : Nat} (hl : l < 9) (ht : t ≤ (sl n).length) (h10 : ∀ n, n ∈ v.1 → (sl n).length ≤ 10) (hd : lfD nd m i = ndL l) (hr : rr i = rrN (sgR sl) v.2 v.1 (ndL l)) (hq : (qsS nd m).2.2 (lfN nd m i) = false) : (if mxB (fun k => pcN (fsA (sgR sl n) (lfD nd m i) (b + k)) 20) (t - b) = 0 ∨ (qsS nd m).2.2 (lfN nd m i) = true then 0 else gvN 3 1 (rr i) (lfD nd m i) (mxB (fun k => pcN (fsA (sgR sl n) (lfD nd m i) (b + k)) 20) (t - b))) = b1N (gaN sl v) (moN (sl n) b t l) l := by
  rw [hd, hr, hq, mo_l hl ht]
  unfold b1N
  by_cases c : moN (sl n) b t l = 0
  · rw [if_pos (Or.inl c), if_pos c]
  · rw [if_neg (fun z => z.elim c (fun z => absurd z (by decide))), if_neg c, gv_l hl h10 (Nat.pos_of_ne_zero c)]
theorem bdL_1 {E : Nat → Nat} {L : List Nat} (hl : l < 7) : bdL E L b t l 9 = b1N E (moN L b t l) l := by
  have z : ∀ q, b1N E 0 q = 0 := fun q => if_pos rfl
  have : l = 0 ∨ l = 1 ∨ l = 2 ∨ l = 3 ∨ l = 4 ∨ l = 5 ∨ l = 6 := by omega
  rcases this with rfl | rfl | rfl | rfl | rfl | rfl | rfl <;> simp [bdL, smN, ofB, z]
theorem bdL_7 {E : Nat → Nat} {L : List Nat} : bdL E L b t 7 9 = b1N E (moN L b t 0) 0 + b1N E (moN L b t 1) 1 + b1N E (moN L b t 7) 7 := by
  have z : ∀ q, b1N E 0 q = 0 := fun q => if_pos rfl
  simp [bdL, smN, ofB, z]
theorem bdL_8 {E : Nat → Nat} {L : List Nat} : bdL E L b t 8 9 = b1N E (moN L b t 0) 0 + b1N E (moN L b t 8) 8 := by
  have z : ∀ q, b1N E 0 q = 0 := fun q => if_pos rfl
  simp [bdL, smN, ofB, z]
/-- a bound -/
theorem bd_y {n : Nat} (hy : y < 9) (h10 : ∀ n, n ∈ v.1 → (sl n).length ≤ 10) {e : Nat × (Nat → Nd)} (he : qs6[y]? = some e) (ht : t ≤ (sl n).length) : bdS e.2 e.1 3 1 (rrL e.2 e.1 (sgR sl) v.2 v.1) (sgR sl) n b t = bdL (gaN sl v) (sl n) b t y 9 := by
  unfold bdS
  have one : ∀ l, l < 7 → bdN (q1L l).2 (q1L l).1 3 1 (rrL (q1L l).2 (q1L l).1 (sgR sl) v.2 v.1) (fun i j => fsA (sgR sl n) (lfD (q1L l).2 (q1L l).1 i) j) b t (lfI (q1L l).2 (q1L l).1).length = bdL (gaN sl v) (sl n) b t l 9 := fun l hl => by
    rw [bdL_1 hl]
    have : l = 0 ∨ l = 1 ∨ l = 2 ∨ l = 3 ∨ l = 4 ∨ l = 5 ∨ l = 6 := by omega
    rcases this with rfl | rfl | rfl | rfl | rfl | rfl | rfl <;> exact (Nat.zero_add _).trans (bd_1 (i := 0) (by decide) ht h10 rfl rfl rfl)
  have : y = 0 ∨ y = 1 ∨ y = 2 ∨ y = 3 ∨ y = 4 ∨ y = 5 ∨ y = 6 ∨ y = 7 ∨ y = 8 := by omega
  rcases this with rfl | rfl | rfl | rfl | rfl | rfl | rfl | rfl | rfl <;> (obtain rfl := Option.some.inj he)
  · exact one 0 (by decide)
  · exact one 1 (by decide)
  · exact one 2 (by decide)
  · exact one 3 (by decide)
  · exact one 4 (by decide)
  · exact one 5 (by decide)
  · exact one 6 (by decide)
  · rw [bdL_7]
    have b0 := bd_1 (b := b) (n := n) (l := 0) (nd := q7L.2) (m := q7L.1) (i := 0) (rr := rrL q7L.2 q7L.1 (sgR sl) v.2 v.1) (by decide) ht h10 rfl rfl rfl
    have b1 := bd_1 (b := b) (n := n) (l := 1) (nd := q7L.2) (m := q7L.1) (i := 1) (rr := rrL q7L.2 q7L.1 (sgR sl) v.2 v.1) (by decide) ht h10 rfl rfl rfl
    have b2 := bd_1 (b := b) (n := n) (l := 7) (nd := q7L.2) (m := q7L.1) (i := 2) (rr := rrL q7L.2 q7L.1 (sgR sl) v.2 v.1) (by decide) ht h10 rfl rfl rfl
    rw [← b0, ← b1, ← b2]
    exact congrArg (· + _) (congrArg (· + _) (Nat.zero_add _))
  · rw [bdL_8]
    have b0 := bd_1 (b := b) (n := n) (l := 0) (nd := q8L.2) (m := q8L.1) (i := 0) (rr := rrL q8L.2 q8L.1 (sgR sl) v.2 v.1) (by decide) ht h10 rfl rfl rfl
    have b1 := bd_1 (b := b) (n := n) (l := 8) (nd := q8L.2) (m := q8L.1) (i := 1) (rr := rrL q8L.2 q8L.1 (sgR sl) v.2 v.1) (by decide) ht h10 rfl rfl rfl
    have b2 : (if mxB (fun k => pcN (fsA (sgR sl n) (lfD q8L.2 q8L.1 2) (b + k)) 20) (t - b) = 0 ∨ (qsS q8L.2 q8L.1).2.2 (lfN q8L.2 q8L.1 2) = true then 0 else gvN 3 1 (rrL q8L.2 q8L.1 (sgR sl) v.2 v.1 2) (lfD q8L.2 q8L.1 2) (mxB (fun k => pcN (fsA (sgR sl n) (lfD q8L.2 q8L.1 2) (b + k)) 20) (t - b))) = 0 := if_pos (Or.inr rfl)
    rw [← b0, ← b1]
    refine (congrArg (_ + ·) b2).trans ?_
    rw [Nat.add_zero]
    exact congrArg (· + _) (Nat.zero_add _)
theorem hdN_ext {f g : Nat → Option (Nat × Nat)} {mo b : Nat} {H : List (Nat × Nat)} : ∀ {k : Nat}, (∀ q, q < k → f (b + q) = g (b + q)) → hdN f mo H b k = hdN g mo H b k
  | 0, _ => rfl
  | k + 1, h => by
    rw [hdN, hdN, h k (by omega), hdN_ext (k := k) (fun q hq => h q (by omega))]
theorem bkS_ext {f g : Nat → Option (Nat × Nat)} {bd bd' : Nat → Nat → Nat} {mo len : Nat} {s : List (Nat × Nat) × Nat} (hf : ∀ i, i < len → f i = g i) (hb : ∀ a t, t ≤ len → bd a t = bd' a t) : ∀ k, bkS f bd mo len s k = bkS g bd' mo len s k
  | 0 => rfl
  | k + 1 => by
    have hm : min len (4 * k + 4) ≤ len := Nat.min_le_left _ _
    rw [bkS, bkS, bkS_ext hf hb k, hb _ _ hm, hdN_ext (fun q hq => hf _ (by omega))]
theorem hf_y {n j : Nat} (hy : y < 9) (h10 : ∀ n, n ∈ v.1 → (sl n).length ≤ 10) {e : Nat × (Nat → Nd)} (he : qs6[y]? = some e) (hj : j < (sl n).length) : hfN e.2 e.1 3 1 (rrL e.2 e.1 (sgR sl) v.2 v.1) (sgR sl) v.2 n j = lhN (gaN sl v) sl v y n j := by
  obtain ⟨a, ha⟩ : ∃ a, (sl n)[j]? = some a := ⟨_, List.getElem?_eq_getElem hj⟩
  have hv := vl_y hy h10 he ha
  unfold hfN lhN
  rw [sgR_get.mpr ⟨a, ha, rfl⟩, ha]
  dsimp only
  rw [hv]
  unfold opN
  by_cases c : rkN (gaN sl v) a y = 0
  · rw [if_pos c, c]
    simp
  · rw [if_neg c, decide_eq_true (Nat.pos_of_ne_zero c)]
    rfl
theorem sr_lr {mo : Nat} (hy : y < 9) (h10 : ∀ n, n ∈ v.1 → (sl n).length ≤ 10) {e : Nat × (Nat → Nd)} (he : qs6[y]? = some e) : ∀ k, srS e.2 e.1 3 1 (rrL e.2 e.1 (sgR sl) v.2 v.1) (sgR sl) v.2 mo v.1 k = lrS (gaN sl v) sl v y mo v.1 k
  | 0 => rfl
  | k + 1 => by
    rw [srS, lrS, sr_lr hy h10 he k]
    cases h : v.1[k]? with
    | none => rfl
    | some n =>
      dsimp only
      rw [sgR_len]
      exact bkS_ext (fun j hj => hf_y hy h10 he hj) (fun b t ht => bd_y hy h10 he ht) _
end LZT
