/-! the reference, leaves: signs, words, stems -/
def inB (x a b : Int32) : Bool := decide (a ≤ x) && decide (x ≤ b)
def inN (x a b : Nat) : Bool := decide (a ≤ x) && decide (x ≤ b)
theorem inB_lo {x a b : Int32} (h : x < a) : inB x a b = false := by
  have : ¬ a ≤ x := by rw [Int32.le_iff_toInt_le]; rw [Int32.lt_iff_toInt_lt] at h; omega
  simp [inB, this]
theorem inB_hi {x a b : Int32} (h : b < x) : inB x a b = false := by
  have : ¬ x ≤ b := by rw [Int32.le_iff_toInt_le]; rw [Int32.lt_iff_toInt_lt] at h; omega
  simp [inB, this]
theorem inB_t {x a b : Int32} (h : ¬ x < a) (h2 : ¬ b < x) : inB x a b = true := by
  have h3 : a ≤ x := by rw [Int32.le_iff_toInt_le]; rw [Int32.lt_iff_toInt_lt] at h; omega
  have h4 : x ≤ b := by rw [Int32.le_iff_toInt_le]; rw [Int32.lt_iff_toInt_lt] at h2; omega
  simp [inB, h3, h4]
theorem inB_N {x a b : Nat} (hx : x < 2 ^ 31) (ha : a < 2 ^ 31) (hb : b < 2 ^ 31) : inB (nI x) (nI a) (nI b) = inN x a b := by
  simp [inB, inN, nI_leI ha hx, nI_leI hx hb]
/-- what goes leaves: 0, or which of the three fails first -/
def goX (b1 b2 b3 : Bool) : Int32 := if b1 = false then 1 else if b2 = false then 2 else if b3 = false then 3 else 0
/-- the figure of a sign -/
def figN (x : Nat) : Nat := if inN x 48 57 then x - 48 + 1 else if inN x 97 122 then x - 97 + 11 else if inN x 65 90 then x - 65 + 11 else 0
theorem inN_t {x a b : Nat} (h : inN x a b = true) : a ≤ x ∧ x ≤ b := by simpa [inN] using h
theorem figN_1 {x : Nat} (h : inN x 48 57 = true) : figN x = x - 48 + 1 := by simp [figN, h]
theorem figN_2 {x : Nat} (h : inN x 48 57 = false) (h2 : inN x 97 122 = true) : figN x = x - 97 + 11 := by simp [figN, h, h2]
theorem figN_3 {x : Nat} (h : inN x 48 57 = false) (h2 : inN x 97 122 = false) (h3 : inN x 65 90 = true) : figN x = x - 65 + 11 := by simp [figN, h, h2, h3]
theorem figN_0 {x : Nat} (h : inN x 48 57 = false) (h2 : inN x 97 122 = false) (h3 : inN x 65 90 = false) : figN x = 0 := by simp [figN, h, h2, h3]
theorem figN_lt (x : Nat) : figN x < 37 := by
  unfold figN inN
  split
  · rename_i h; simp at h; omega
  · split
    · rename_i h; simp at h; omega
    · split
      · rename_i h; simp at h; omega
      · omega
/-- a figure of a word of twelve, by 37 -/
def dg (w k : Nat) : Nat := w / 37 ^ (11 - k) % 37
theorem dg_lt (w k : Nat) : dg w k < 37 := Nat.mod_lt _ (by decide)
theorem p37_pos (k : Nat) : 0 < 37 ^ k := Nat.pow_pos (by decide)
theorem p37_lt {k : Nat} (h : k ≤ 11) : 37 ^ k < 2 ^ 63 := Nat.lt_of_le_of_lt (Nat.pow_le_pow_right (by decide) h) (by decide)
/-- the least k below n with q k, else n -/
def fst0 (q : Nat → Bool) : Nat → Nat
  | 0 => 0
  | n + 1 => if fst0 q n < n then fst0 q n else if q n then n else n + 1
theorem fst0_le (q : Nat → Bool) : ∀ n, fst0 q n ≤ n
  | 0 => Nat.le_refl 0
  | n + 1 => by
    have h := fst0_le q n
    unfold fst0
    split
    · omega
    · split <;> omega
theorem fst0_all {q : Nat → Bool} : ∀ {n : Nat}, (∀ j, j < n → q j = false) → fst0 q n = n
  | 0, _ => rfl
  | n + 1, h => by
    unfold fst0
    rw [fst0_all (fun j hj => h j (by omega)), if_neg (Nat.lt_irrefl n), if_neg (by rw [h n (by omega)]; decide)]
theorem fst0_eq {q : Nat → Bool} {k : Nat} (h1 : ∀ j, j < k → q j = false) (h2 : q k = true) : ∀ {n : Nat}, k < n → fst0 q n = k
  | 0, h => absurd h (Nat.not_lt_zero k)
  | n + 1, h => by
    rcases Nat.lt_or_ge k n with q1 | q1
    · unfold fst0
      rw [fst0_eq h1 h2 q1, if_pos q1]
    · have : k = n := by omega
      subst this
      unfold fst0
      rw [fst0_all h1, if_neg (Nat.lt_irrefl _), if_pos h2]
theorem fst0_pre {q : Nat → Bool} : ∀ {n j : Nat}, j < fst0 q n → q j = false
  | 0, j, h => absurd h (Nat.not_lt_zero j)
  | n + 1, j, h => by
    unfold fst0 at h
    have hl := fst0_le q n
    split at h
    · exact fst0_pre h
    · rename_i h0
      have e : fst0 q n = n := by omega
      split at h
      · exact fst0_pre (n := n) (by omega)
      · rename_i h3
        rcases Nat.lt_or_ge j n with q1 | q1
        · exact fst0_pre (n := n) (by omega)
        · have : j = n := by omega
          subst this
          simpa using h3
theorem fst0_at {q : Nat → Bool} : ∀ {n : Nat}, fst0 q n < n → q (fst0 q n) = true
  | 0, h => absurd h (Nat.not_lt_zero _)
  | n + 1, h => by
    have hl := fst0_le q n
    unfold fst0 at h ⊢
    split
    · rename_i h0; exact fst0_at h0
    · rename_i h0
      split
      · rename_i h3; exact h3
      · rename_i h3; rw [if_neg h0, if_neg h3] at h; omega
/-- how many signs a word has -/
theorem lnW_exN (w N : Nat) : ∃ n, n ≤ N ∧ (∀ j, j < n → 0 < dg w j) ∧ (n < N → dg w n = 0) := by
  refine ⟨fst0 (fun k => dg w k == 0) N, fst0_le _ _, fun j h => ?_, fun h => ?_⟩
  · have h1 := fst0_pre h
    exact Nat.pos_of_ne_zero (beq_eq_false_iff_ne.mp h1)
  · have h1 := fst0_at h
    exact beq_iff_eq.mp h1
theorem lnW_ex (w : Nat) : ∃ n, n ≤ 12 ∧ (∀ j, j < n → 0 < dg w j) ∧ (n < 12 → dg w n = 0) := lnW_exN w 12
noncomputable def lnW (w : Nat) : Nat := Classical.choose (lnW_ex w)
theorem lnW_le (w : Nat) : lnW w ≤ 12 := (Classical.choose_spec (lnW_ex w)).1
theorem lnW_pos {w j : Nat} (h : j < lnW w) : 0 < dg w j := (Classical.choose_spec (lnW_ex w)).2.1 j h
theorem lnW_end {w : Nat} (h : lnW w < 12) : dg w (lnW w) = 0 := (Classical.choose_spec (lnW_ex w)).2.2 h
theorem lnW_eq {w n : Nat} (hn : n ≤ 12) (h1 : ∀ j, j < n → 0 < dg w j) (h2 : n < 12 → dg w n = 0) : lnW w = n := by
  have hl := lnW_le w
  rcases Nat.lt_trichotomy (lnW w) n with h | h | h
  · have a := h1 _ h
    have b := lnW_end (w := w) (by omega)
    omega
  · exact h
  · have a := lnW_pos h
    have b := h2 (by omega)
    omega
/-- the first n signs of a word -/
def cutW (w n : Nat) : Nat := w / 37 ^ (12 - n) * 37 ^ (12 - n)
theorem cutW_le (w n : Nat) : cutW w n ≤ w := Nat.div_mul_le_self _ _
def endW (w n x b : Nat) : Bool := decide (b < n) && (dg w (n - 1 - b) == figN x)
theorem endW_0 {w n x b : Nat} (h : n ≤ b) : endW w n x b = false := by
  unfold endW; rw [decide_eq_false (by omega), Bool.false_and]
theorem endW_1 {w n x b : Nat} (h : b < n) (h2 : ¬ dg w (n - 1 - b) = figN x) : endW w n x b = false := by
  unfold endW; rw [beq_eq_false_iff_ne.mpr h2, Bool.and_false]
theorem endW_2 {w n x b : Nat} (h : b < n) (h2 : dg w (n - 1 - b) = figN x) : endW w n x b = true := by
  unfold endW; rw [decide_eq_true h, beq_iff_eq.mpr h2]; rfl
/-- the stem of a word -/
noncomputable def stW (w : Nat) : Nat :=
  if 6 ≤ lnW w ∧ endW w (lnW w) 103 0 ∧ endW w (lnW w) 110 1 ∧ endW w (lnW w) 105 2 then cutW w (lnW w - 3)
  else if 5 ≤ lnW w ∧ endW w (lnW w) 100 0 ∧ endW w (lnW w) 101 1 then cutW w (lnW w - 2)
  else if 4 ≤ lnW w ∧ endW w (lnW w) 115 0 ∧ ¬ endW w (lnW w) 115 1 then cutW w (lnW w - 1) else w
theorem stW_le (w : Nat) : stW w ≤ w := by
  unfold stW
  split
  · exact cutW_le _ _
  · split
    · exact cutW_le _ _
    · split
      · exact cutW_le _ _
      · exact Nat.le_refl _
theorem anyB_s1 {q : Nat → Bool} {k : Nat} (h : anyB q k = true) : anyB q (k + 1) = true := by rw [anyB, h, Bool.true_or]
theorem anyB_s2 {q : Nat → Bool} {k : Nat} (h : q k = true) : anyB q (k + 1) = true := by rw [anyB, h, Bool.or_true]
theorem anyB_s0 {q : Nat → Bool} {k : Nat} (h : anyB q k = false) (h2 : q k = false) : anyB q (k + 1) = false := by rw [anyB, h, h2]; rfl
abbrev mPow (g : Nat → Nat → Int64) : Prop := ∀ k, k < 12 → g 1 k = lN (37 ^ (11 - k))
set_option maxHeartbeats 4000000 in
set_option maxRecDepth 100000 in
theorem c_in (l : Launch) (v : Nat → Int32) (f : Nat → Nat → Int32) (g : Nat → Nat → Int64) (x : Int32) (lo : Int32) (hi : Int32)  : mMi l yX12_in cX12_in 3 (some .boolean) 0 0 true [.int x, .int lo, .int hi] v f g (fun r_ u_ => r_ = bI (inB x lo hi) ∧ u_ = (v, f, g)) := by
  intro D cI cJ cZ a sz
  refine mg_body (by decide +kernel) rfl (Nat.le_of_ble_eq_true rfl) ?_
  intro p e s m args below meth c hsz C
  clear hsz
  generalize va_A (mW cI cJ cZ a v f g) sz = A at C ⊢
  refine mg_lv (lv' := [(0, .int x), (1, .int lo), (2, .int hi)]) rfl ?_
  refine mg_iload_n C (i := 0) rfl 0 rfl dX12_in_0 ?_
  refine mg_iload_n C (i := 1) rfl 1 rfl dX12_in_1 ?_
  refine mg_icmp_lt C 14 (by decide) dX12_in_2 (fun c_2 => ?_) (fun c_2 => ?_)
  · refine mg_iconst C (x := nI 0) rfl dX12_in_14 ?_
    refine mg_cast (bI false) rfl ?_
    exact mg_zret C (bI_nar _) ⟨by first | exact (congrArg bI (inB_lo (by assumption))).symm | exact (congrArg bI (inB_hi (by assumption))).symm | exact (congrArg bI (inB_t (by assumption) (by assumption))).symm, rfl⟩ dX12_in_15
  · refine mg_iload_n C (i := 0) rfl 0 rfl dX12_in_5 ?_
    refine mg_iload_n C (i := 2) rfl 2 rfl dX12_in_6 ?_
    refine mg_icmp_gt C 14 (by decide) dX12_in_7 (fun c_7 => ?_) (fun c_7 => ?_)
    · refine mg_iconst C (x := nI 0) rfl dX12_in_14 ?_
      refine mg_cast (bI false) rfl ?_
      exact mg_zret C (bI_nar _) ⟨by first | exact (congrArg bI (inB_lo (by assumption))).symm | exact (congrArg bI (inB_hi (by assumption))).symm | exact (congrArg bI (inB_t (by assumption) (by assumption))).symm, rfl⟩ dX12_in_15
    · refine mg_iconst C (x := nI 1) rfl dX12_in_10 ?_
      refine mg_goto C 15 (by decide) dX12_in_11 ?_
      refine mg_cast (bI true) rfl ?_
      exact mg_zret C (bI_nar _) ⟨by first | exact (congrArg bI (inB_lo (by assumption))).symm | exact (congrArg bI (inB_hi (by assumption))).symm | exact (congrArg bI (inB_t (by assumption) (by assumption))).symm, rfl⟩ dX12_in_15
set_option maxHeartbeats 4000000 in
set_option maxRecDepth 100000 in
theorem c_goes (l : Launch) (v : Nat → Int32) (f : Nat → Nat → Int32) (g : Nat → Nat → Int64) (b1 : Bool) (b2 : Bool) (b3 : Bool)  : mMi l yX12_goes cX12_goes 4 (some .boolean) 0 0 false [.int (bI b1), .int (bI b2), .int (bI b3)] v f g (fun r_ u_ => r_ = bI (b1 && b2 && b3) ∧ u_ = (upd v 99 (goX b1 b2 b3), f, g)) := by
  intro D cI cJ cZ a sz
  refine mg_body (by decide +kernel) rfl (Nat.le_of_ble_eq_true rfl) ?_
  intro p e s m args below meth c hsz C
  clear hsz
  generalize va_A (mW cI cJ cZ a v f g) sz = A at C ⊢
  refine mg_lv (lv' := [(0, .ref (a 0)), (1, .int (bI b1)), (2, .int (bI b2)), (3, .int (bI b3))]) rfl ?_
  refine mg_aload_n C (i := 0) rfl 0 rfl dX12_goes_0 ?_
  refine mg_iload_n C (i := 1) rfl 1 rfl dX12_goes_1 ?_
  refine mg_if_neB C 9 (by decide) dX12_goes_2 (fun c_2 => ?_) (fun c_2 => ?_)
  · refine mg_iload_n C (i := 2) rfl 2 rfl dX12_goes_9 ?_
    refine mg_if_neB C 17 (by decide) dX12_goes_10 (fun c_10 => ?_) (fun c_10 => ?_)
    · refine mg_iload_n C (i := 3) rfl 3 rfl dX12_goes_17 ?_
      refine mg_if_eqB C 25 (by decide) dX12_goes_18 (fun c_18 => ?_) (fun c_18 => ?_)
      · refine mg_iconst C (x := nI 3) rfl dX12_goes_25 ?_
        refine mg_put C (k := 99) (by decide) rfl mL_last rfl (by decide +kernel) mT_last rfl rfl dX12_goes_26 ?_
        refine mg_aload_n C (i := 0) rfl 0 rfl dX12_goes_29 ?_
        refine mg_getI C (k := 99) (by decide) rfl mL_last rfl dX12_goes_30 ?_
        refine mg_cast (nI 3) rfl ?_
        refine mg_if_neN C (by omega) 40 (by decide) dX12_goes_33 (fun c_33 => ?_) (fun c_33 => ?_)
        · refine mg_iconst C (x := nI 0) rfl dX12_goes_40 ?_
          refine mg_cast (bI false) rfl ?_
          exact mg_zret C (bI_nar _) (by first | exact absurd c_33 (by decide) | exact ⟨by subst_vars; rfl, by subst_vars; rfl⟩) dX12_goes_41
        · refine mg_iconst C (x := nI 1) rfl dX12_goes_36 ?_
          refine mg_goto C 41 (by decide) dX12_goes_37 ?_
          refine mg_cast (bI true) rfl ?_
          exact mg_zret C (bI_nar _) (by first | exact absurd c_33 (by decide) | exact ⟨by subst_vars; rfl, by subst_vars; rfl⟩) dX12_goes_41
      · refine mg_iconst C (x := nI 0) rfl dX12_goes_21 ?_
        refine mg_goto C 26 (by decide) dX12_goes_22 ?_
        refine mg_put C (k := 99) (by decide) rfl mL_last rfl (by decide +kernel) mT_last rfl rfl dX12_goes_26 ?_
        refine mg_aload_n C (i := 0) rfl 0 rfl dX12_goes_29 ?_
        refine mg_getI C (k := 99) (by decide) rfl mL_last rfl dX12_goes_30 ?_
        refine mg_cast (nI 0) rfl ?_
        refine mg_if_neN C (by omega) 40 (by decide) dX12_goes_33 (fun c_33 => ?_) (fun c_33 => ?_)
        · refine mg_iconst C (x := nI 0) rfl dX12_goes_40 ?_
          refine mg_cast (bI false) rfl ?_
          exact mg_zret C (bI_nar _) (by first | exact absurd c_33 (by decide) | exact ⟨by subst_vars; rfl, by subst_vars; rfl⟩) dX12_goes_41
        · refine mg_iconst C (x := nI 1) rfl dX12_goes_36 ?_
          refine mg_goto C 41 (by decide) dX12_goes_37 ?_
          refine mg_cast (bI true) rfl ?_
          exact mg_zret C (bI_nar _) (by first | exact absurd c_33 (by decide) | exact ⟨by subst_vars; rfl, by subst_vars; rfl⟩) dX12_goes_41
    · refine mg_iconst C (x := nI 2) rfl dX12_goes_13 ?_
      refine mg_goto C 26 (by decide) dX12_goes_14 ?_
      refine mg_put C (k := 99) (by decide) rfl mL_last rfl (by decide +kernel) mT_last rfl rfl dX12_goes_26 ?_
      refine mg_aload_n C (i := 0) rfl 0 rfl dX12_goes_29 ?_
      refine mg_getI C (k := 99) (by decide) rfl mL_last rfl dX12_goes_30 ?_
      refine mg_cast (nI 2) rfl ?_
      refine mg_if_neN C (by omega) 40 (by decide) dX12_goes_33 (fun c_33 => ?_) (fun c_33 => ?_)
      · refine mg_iconst C (x := nI 0) rfl dX12_goes_40 ?_
        refine mg_cast (bI false) rfl ?_
        exact mg_zret C (bI_nar _) (by first | exact absurd c_33 (by decide) | exact ⟨by subst_vars; rfl, by subst_vars; rfl⟩) dX12_goes_41
      · refine mg_iconst C (x := nI 1) rfl dX12_goes_36 ?_
        refine mg_goto C 41 (by decide) dX12_goes_37 ?_
        refine mg_cast (bI true) rfl ?_
        exact mg_zret C (bI_nar _) (by first | exact absurd c_33 (by decide) | exact ⟨by subst_vars; rfl, by subst_vars; rfl⟩) dX12_goes_41
  · refine mg_iconst C (x := nI 1) rfl dX12_goes_5 ?_
    refine mg_goto C 26 (by decide) dX12_goes_6 ?_
    refine mg_put C (k := 99) (by decide) rfl mL_last rfl (by decide +kernel) mT_last rfl rfl dX12_goes_26 ?_
    refine mg_aload_n C (i := 0) rfl 0 rfl dX12_goes_29 ?_
    refine mg_getI C (k := 99) (by decide) rfl mL_last rfl dX12_goes_30 ?_
    refine mg_cast (nI 1) rfl ?_
    refine mg_if_neN C (by omega) 40 (by decide) dX12_goes_33 (fun c_33 => ?_) (fun c_33 => ?_)
    · refine mg_iconst C (x := nI 0) rfl dX12_goes_40 ?_
      refine mg_cast (bI false) rfl ?_
      exact mg_zret C (bI_nar _) (by first | exact absurd c_33 (by decide) | exact ⟨by subst_vars; rfl, by subst_vars; rfl⟩) dX12_goes_41
    · refine mg_iconst C (x := nI 1) rfl dX12_goes_36 ?_
      refine mg_goto C 41 (by decide) dX12_goes_37 ?_
      refine mg_cast (bI true) rfl ?_
      exact mg_zret C (bI_nar _) (by first | exact absurd c_33 (by decide) | exact ⟨by subst_vars; rfl, by subst_vars; rfl⟩) dX12_goes_41
set_option maxHeartbeats 4000000 in
set_option maxRecDepth 100000 in
theorem c_figure (l : Launch) (v : Nat → Int32) (f : Nat → Nat → Int32) (g : Nat → Nat → Int64) (x : Nat) (hx : x < 65536) : mMi l yX12_figure cX12_figure 1 (some .int) 1 22 true [.int (nI x)] v f g (fun r_ u_ => r_ = nI (figN x) ∧ u_ = (v, f, g)) := by
  intro D cI cJ cZ a sz
  refine mg_body (by decide +kernel) rfl (Nat.le_of_ble_eq_true rfl) ?_
  intro p e s m args below meth c hsz C
  clear hsz
  generalize va_A (mW cI cJ cZ a v f g) sz = A at C ⊢
  refine mg_lv (lv' := [(0, .int (nI x))]) rfl ?_
  refine mg_iload_n C (i := 0) rfl 0 rfl dX12_figure_0 ?_
  refine mg_bipush C (x := nI 48) rfl dX12_figure_1 ?_
  refine mg_bipush C (x := nI 57) rfl dX12_figure_3 ?_
  refine mg_dosi C (c_in l v f g (nI x) (nI 48) (nI 57)) mCal_in rfl ⟨by decide, by decide⟩ rfl (Nat.le_of_ble_eq_true rfl) dX12_figure_5 ?_
  refine mg_cast (bI (inN x 48 57)) (congrArg bI (inB_N (by omega) (by omega) (by omega))) ?_
  refine mg_if_eqB C 20 (by decide) dX12_figure_8 (fun c_8 => ?_) (fun c_8 => ?_)
  · refine mg_iload_n C (i := 0) rfl 0 rfl dX12_figure_20 ?_
    refine mg_bipush C (x := nI 97) rfl dX12_figure_21 ?_
    refine mg_bipush C (x := nI 122) rfl dX12_figure_23 ?_
    refine mg_dosi C (c_in l v f g (nI x) (nI 97) (nI 122)) mCal_in rfl ⟨by decide, by decide⟩ rfl (Nat.le_of_ble_eq_true rfl) dX12_figure_25 ?_
    refine mg_cast (bI (inN x 97 122)) (congrArg bI (inB_N (by omega) (by omega) (by omega))) ?_
    refine mg_if_eqB C 41 (by decide) dX12_figure_28 (fun c_28 => ?_) (fun c_28 => ?_)
    · refine mg_iload_n C (i := 0) rfl 0 rfl dX12_figure_41 ?_
      refine mg_bipush C (x := nI 65) rfl dX12_figure_42 ?_
      refine mg_bipush C (x := nI 90) rfl dX12_figure_44 ?_
      refine mg_dosi C (c_in l v f g (nI x) (nI 65) (nI 90)) mCal_in rfl ⟨by decide, by decide⟩ rfl (Nat.le_of_ble_eq_true rfl) dX12_figure_46 ?_
      refine mg_cast (bI (inN x 65 90)) (congrArg bI (inB_N (by omega) (by omega) (by omega))) ?_
      refine mg_if_eqB C 62 (by decide) dX12_figure_49 (fun c_49 => ?_) (fun c_49 => ?_)
      · refine mg_iconst C (x := nI 0) rfl dX12_figure_62 ?_
        exact mg_iret C ⟨congrArg nI (by first | exact (figN_1 c_8).symm | exact (figN_2 c_8 c_28).symm | exact (figN_3 c_8 c_28 c_49).symm | exact (figN_0 c_8 c_28 c_49).symm), rfl⟩ dX12_figure_63
      · have h_49 := inN_t c_49
        refine mg_iload_n C (i := 0) rfl 0 rfl dX12_figure_52 ?_
        refine mg_bipush C (x := nI 65) rfl dX12_figure_53 ?_
        refine mg_isubN C (by omega) dX12_figure_55 ?_
        refine mg_bipush C (x := nI 11) rfl dX12_figure_56 ?_
        refine mg_iaddN C dX12_figure_58 ?_
        refine mg_goto C 63 (by decide) dX12_figure_59 ?_
        exact mg_iret C ⟨congrArg nI (by first | exact (figN_1 c_8).symm | exact (figN_2 c_8 c_28).symm | exact (figN_3 c_8 c_28 c_49).symm | exact (figN_0 c_8 c_28 c_49).symm), rfl⟩ dX12_figure_63
    · have h_28 := inN_t c_28
      refine mg_iload_n C (i := 0) rfl 0 rfl dX12_figure_31 ?_
      refine mg_bipush C (x := nI 97) rfl dX12_figure_32 ?_
      refine mg_isubN C (by omega) dX12_figure_34 ?_
      refine mg_bipush C (x := nI 11) rfl dX12_figure_35 ?_
      refine mg_iaddN C dX12_figure_37 ?_
      refine mg_goto C 63 (by decide) dX12_figure_38 ?_
      exact mg_iret C ⟨congrArg nI (by first | exact (figN_1 c_8).symm | exact (figN_2 c_8 c_28).symm | exact (figN_3 c_8 c_28 c_49).symm | exact (figN_0 c_8 c_28 c_49).symm), rfl⟩ dX12_figure_63
  · have h_8 := inN_t c_8
    refine mg_iload_n C (i := 0) rfl 0 rfl dX12_figure_11 ?_
    refine mg_bipush C (x := nI 48) rfl dX12_figure_12 ?_
    refine mg_isubN C (by omega) dX12_figure_14 ?_
    refine mg_iconst C (x := nI 1) rfl dX12_figure_15 ?_
    refine mg_iaddN C dX12_figure_16 ?_
    refine mg_goto C 63 (by decide) dX12_figure_17 ?_
    exact mg_iret C ⟨congrArg nI (by first | exact (figN_1 c_8).symm | exact (figN_2 c_8 c_28).symm | exact (figN_3 c_8 c_28 c_49).symm | exact (figN_0 c_8 c_28 c_49).symm), rfl⟩ dX12_figure_63
set_option maxHeartbeats 4000000 in
set_option maxRecDepth 100000 in
theorem c_at (l : Launch) (v : Nat → Int32) (f : Nat → Nat → Int32) (g : Nat → Nat → Int64) (w : Nat) (k : Nat) (hw : w < 2 ^ 63) (hk : k < 12) (hp : mPow g) : mMi l yX12_at cX12_at 4 (some .int) 0 0 false [.long (lN w), .int (nI k)] v f g (fun r_ u_ => r_ = nI (dg w k) ∧ u_ = (v, f, g)) := by
  intro D cI cJ cZ a sz
  refine mg_body (by decide +kernel) rfl (Nat.le_of_ble_eq_true rfl) ?_
  intro p e s m args below meth c hsz C
  clear hsz
  generalize va_A (mW cI cJ cZ a v f g) sz = A at C ⊢
  refine mg_lv (lv' := [(0, .ref (a 0)), (1, .long (lN w)), (3, .int (nI k))]) rfl ?_
  refine mg_lload_n C (i := 1) rfl 1 rfl dX12_at_0 ?_
  refine mg_aload_n C (i := 0) rfl 0 rfl dX12_at_1 ?_
  refine mg_arr C 1 (by decide) (by decide) rfl mL_powers rfl dX12_at_2 ?_
  refine mg_iload_n C (i := 3) rfl 2 rfl dX12_at_5 ?_
  refine mg_laload C (n := 12) 1 k (by decide) (by decide) rfl rfl (by omega) (by decide) dX12_at_6 ?_
  refine mg_ldiv C (by rw [hp k hk]; exact fun q => absurd ((pk_lEQ (p37_lt (by omega)) (by decide)).mp (q.trans (show (0 : Int64) = lN 0 from rfl))) (Nat.ne_of_gt (p37_pos _))) dX12_at_7 ?_
  refine mg_castL (lN (w / 37 ^ (11 - k))) (by rw [hp k hk]; exact pk_lDiv hw (p37_pos _) (p37_lt (by omega))) ?_
  refine mg_ldc2 C (x := 37) mK_37 dX12_at_8 ?_
  refine mg_lrem C (by decide) dX12_at_11 ?_
  refine mg_castL (lN (w / 37 ^ (11 - k) % 37)) (pk_lRem (Nat.lt_of_le_of_lt (Nat.div_le_self _ _) hw) (by decide) (by decide)) ?_
  refine mg_l2i C dX12_at_12 ?_
  refine mg_cast (nI (dg w k)) (lN_i _) ?_
  exact mg_iret C ⟨by first | rfl | simp_all, rfl⟩ dX12_at_13
set_option maxHeartbeats 4000000 in
set_option maxRecDepth 100000 in
theorem c_length (l : Launch) (v : Nat → Int32) (f : Nat → Nat → Int32) (g : Nat → Nat → Int64) (w : Nat) (hw : w < 2 ^ 63) (hp : mPow g) : mMi l yX12_length cX12_length 4 (some .int) 1 23 false [.long (lN w)] v f g (fun r_ u_ => r_ = nI (lnW w) ∧ u_ = (v, f, g)) := by
  intro D cI cJ cZ a sz
  refine mg_body (by decide +kernel) rfl (Nat.le_of_ble_eq_true rfl) ?_
  intro p e s m args below meth c hsz C
  clear hsz
  generalize va_A (mW cI cJ cZ a v f g) sz = A at C ⊢
  refine mg_lv (lv' := [(0, .ref (a 0)), (1, .long (lN w))]) rfl ?_
  refine mg_iconst C (x := nI 0) rfl dX12_length_0 ?_
  refine mg_istore_n C (i := 3) (lv' := [(3, .int (nI 0)), (0, .ref (a 0)), (1, .long (lN w))]) rfl (Nat.le_of_ble_eq_true rfl) rfl dX12_length_1 ?_
  refine mg_loop (X := Nat) (fun y_ => (y_ ≤ 12) ∧ (∀ j, j < y_ → 0 < dg w j)) (fun y_ => 12 - y_) (fun y_ => [(3, .int (nI y_)), (0, .ref (a 0)), (1, .long (lN w))]) (fun y_ => (v, f, g)) 0 [0, 1, 2] rfl rfl ⟨by omega, fun j h => absurd h (Nat.not_lt_zero j)⟩ ?_
  rintro n hI_ ih_2
  dsimp only at hI_ ih_2 ⊢
  obtain ⟨hn, hd⟩ := hI_
  refine mg_iload_n C (i := 3) rfl 0 rfl dX12_length_2 ?_
  refine mg_bipush C (x := nI 12) rfl dX12_length_3 ?_
  refine mg_icmp_geN C (by omega) (by omega) 23 (by decide) dX12_length_5 (fun c_5 => ?_) (fun c_5 => ?_)
  · refine mg_iload_n C (i := 3) rfl 0 rfl dX12_length_23 ?_
    exact mg_iret C ⟨congrArg nI (lnW_eq hn hd (fun q => by first | omega | exact c_14)).symm, rfl⟩ dX12_length_24
  · refine mg_aload_n C (i := 0) rfl 1 rfl dX12_length_8 ?_
    refine mg_lload_n C (i := 1) rfl 2 rfl dX12_length_9 ?_
    refine mg_iload_n C (i := 3) rfl 0 rfl dX12_length_10 ?_
    refine mg_doi C (c_at l v f g w n (by omega) (by omega) hp) mCal_at rfl ⟨by decide, by decide⟩ rfl (Nat.le_of_ble_eq_true rfl) dX12_length_11 ?_
    refine mg_if_leN C (Nat.lt_trans (dg_lt _ _) (by decide)) 23 (by decide) dX12_length_14 (fun c_14 => ?_) (fun c_14 => ?_)
    · refine mg_iload_n C (i := 3) rfl 0 rfl dX12_length_23 ?_
      exact mg_iret C ⟨congrArg nI (lnW_eq hn hd (fun q => by first | omega | exact c_14)).symm, rfl⟩ dX12_length_24
    · refine mg_iincN C (lv' := [(3, .int (nI (n + 1))), (0, .ref (a 0)), (1, .long (lN w))]) 1 0 rfl rfl (Nat.le_of_ble_eq_true rfl) rfl dX12_length_17 ?_
      refine mg_goto C 2 (by decide) dX12_length_20 ?_
      exact mg_sub [0, 1, 2] rfl (ih_2 (n + 1) ⟨by omega, fun j h => by
            rcases Nat.lt_or_ge j n with q | q
            · exact hd j q
            · have : j = n := by omega
              subst this; exact c_14⟩ (by omega))
set_option maxHeartbeats 4000000 in
set_option maxRecDepth 100000 in
theorem c_without (l : Launch) (v : Nat → Int32) (f : Nat → Nat → Int32) (g : Nat → Nat → Int64) (w : Nat) (n : Nat) (k : Nat) (hw : w < 2 ^ 63) (hp : mPow g) (hn : n ≤ 12) (hk : k < n) : mMl l yX12_without cX12_without 7 (some .long) 0 0 false [.long (lN w), .int (nI n), .int (nI k)] v f g (fun r_ u_ => r_ = lN (cutW w (n - k)) ∧ u_ = (v, f, g)) := by
  intro D cI cJ cZ a sz
  refine mg_body (by decide +kernel) rfl (Nat.le_of_ble_eq_true rfl) ?_
  intro p e s m args below meth c hsz C
  clear hsz
  generalize va_A (mW cI cJ cZ a v f g) sz = A at C ⊢
  refine mg_lv (lv' := [(0, .ref (a 0)), (1, .long (lN w)), (3, .int (nI n)), (4, .int (nI k))]) rfl ?_
  refine mg_aload_n C (i := 0) rfl 0 rfl dX12_without_0 ?_
  refine mg_arr C 1 (by decide) (by decide) rfl mL_powers rfl dX12_without_1 ?_
  refine mg_iload_n C (i := 3) rfl 2 rfl dX12_without_4 ?_
  refine mg_iload C 3 rfl dX12_without_5 ?_
  refine mg_isubN C (by omega) dX12_without_7 ?_
  refine mg_iconst C (x := nI 1) rfl dX12_without_8 ?_
  refine mg_isubN C (by omega) dX12_without_9 ?_
  refine mg_laload C (n := 12) 1 ((n - k) - 1) (by decide) (by decide) rfl rfl (by omega) (by decide) dX12_without_10 ?_
  refine mg_castL (lN (37 ^ (12 - (n - k)))) (by rw [hp _ (by omega), show 11 - (n - k - 1) = 12 - (n - k) by omega]) ?_
  refine mg_lstore C (lv' := [(5, .long (lN (37 ^ (12 - (n - k))))), (0, .ref (a 0)), (1, .long (lN w)), (3, .int (nI n)), (4, .int (nI k))]) (Nat.le_of_ble_eq_true rfl) rfl dX12_without_11 ?_
  refine mg_lload_n C (i := 1) rfl 2 rfl dX12_without_13 ?_
  refine mg_lload C 0 rfl dX12_without_14 ?_
  refine mg_ldiv C (by exact fun q => absurd ((pk_lEQ (p37_lt (by omega)) (by decide)).mp (q.trans (show (0 : Int64) = lN 0 from rfl))) (Nat.ne_of_gt (p37_pos _))) dX12_without_16 ?_
  refine mg_castL (lN (w / 37 ^ (12 - (n - k)))) (pk_lDiv hw (p37_pos _) (p37_lt (by omega))) ?_
  refine mg_lload C 0 rfl dX12_without_17 ?_
  refine mg_lmul C dX12_without_19 ?_
  refine mg_castL (lN (cutW w (n - k))) (lN_mul _ _) ?_
  exact mg_lret C ⟨by first | rfl | simp_all, rfl⟩ dX12_without_20
set_option maxHeartbeats 4000000 in
set_option maxRecDepth 100000 in
theorem c_ends (l : Launch) (v : Nat → Int32) (f : Nat → Nat → Int32) (g : Nat → Nat → Int64) (w : Nat) (n : Nat) (x : Nat) (b : Nat) (hw : w < 2 ^ 63) (hp : mPow g) (hn : n ≤ 12) (hb : b < 12) (hx : x < 65536) : mMi l yX12_ends cX12_ends 6 (some .boolean) 2 42 false [.long (lN w), .int (nI n), .int (nI x), .int (nI b)] v f g (fun r_ u_ => r_ = bI (endW w n x b) ∧ u_ = (v, f, g)) := by
  intro D cI cJ cZ a sz
  refine mg_body (by decide +kernel) rfl (Nat.le_of_ble_eq_true rfl) ?_
  intro p e s m args below meth c hsz C
  clear hsz
  generalize va_A (mW cI cJ cZ a v f g) sz = A at C ⊢
  refine mg_lv (lv' := [(0, .ref (a 0)), (1, .long (lN w)), (3, .int (nI n)), (4, .int (nI x)), (5, .int (nI b))]) rfl ?_
  refine mg_iload_n C (i := 3) rfl 2 rfl dX12_ends_0 ?_
  refine mg_iload C 4 rfl dX12_ends_1 ?_
  refine mg_icmp_leN C (by omega) (by omega) 29 (by decide) dX12_ends_3 (fun c_3 => ?_) (fun c_3 => ?_)
  · refine mg_iconst C (x := nI 0) rfl dX12_ends_29 ?_
    refine mg_cast (bI false) rfl ?_
    exact mg_zret C (bI_nar _) ⟨congrArg bI (by first | exact (endW_0 c_3).symm | exact (endW_1 c_3 c_22).symm | exact (endW_2 c_3 c_22).symm), rfl⟩ dX12_ends_30
  · refine mg_aload_n C (i := 0) rfl 0 rfl dX12_ends_6 ?_
    refine mg_lload_n C (i := 1) rfl 1 rfl dX12_ends_7 ?_
    refine mg_iload_n C (i := 3) rfl 2 rfl dX12_ends_8 ?_
    refine mg_iconst C (x := nI 1) rfl dX12_ends_9 ?_
    refine mg_isubN C (by omega) dX12_ends_10 ?_
    refine mg_iload C 4 rfl dX12_ends_11 ?_
    refine mg_isubN C (by omega) dX12_ends_13 ?_
    refine mg_doi C (c_at l v f g w ((n - 1) - b) (by omega) (by omega) hp) mCal_at rfl ⟨by decide, by decide⟩ rfl (Nat.le_of_ble_eq_true rfl) dX12_ends_14 ?_
    refine mg_iload C 3 rfl dX12_ends_17 ?_
    refine mg_dosi C (c_figure l v f g x (by omega)) mCal_figure rfl ⟨by decide, by decide⟩ rfl (Nat.le_of_ble_eq_true rfl) dX12_ends_19 ?_
    refine mg_icmp_neN C (Nat.lt_trans (dg_lt _ _) (by decide)) (Nat.lt_trans (figN_lt _) (by decide)) 29 (by decide) dX12_ends_22 (fun c_22 => ?_) (fun c_22 => ?_)
    · refine mg_iconst C (x := nI 0) rfl dX12_ends_29 ?_
      refine mg_cast (bI false) rfl ?_
      exact mg_zret C (bI_nar _) ⟨congrArg bI (by first | exact (endW_0 c_3).symm | exact (endW_1 c_3 c_22).symm | exact (endW_2 c_3 c_22).symm), rfl⟩ dX12_ends_30
    · refine mg_iconst C (x := nI 1) rfl dX12_ends_25 ?_
      refine mg_goto C 30 (by decide) dX12_ends_26 ?_
      refine mg_cast (bI true) rfl ?_
      exact mg_zret C (bI_nar _) ⟨congrArg bI (by first | exact (endW_0 c_3).symm | exact (endW_1 c_3 c_22).symm | exact (endW_2 c_3 c_22).symm), rfl⟩ dX12_ends_30
set_option maxHeartbeats 4000000 in
set_option maxRecDepth 100000 in
theorem c_isStop (l : Launch) (v : Nat → Int32) (f : Nat → Nat → Int32) (g : Nat → Nat → Int64) (stem : Int64) (n : Nat) (hn : n ≤ 10) (hv : v 6 = nI n) : mMi l yX12_isStop cX12_isStop 5 (some .boolean) 0 0 false [.long stem] v f g (fun r_ u_ => r_ = bI (anyB (fun j => g 4 j == stem) n) ∧ u_ = (v, f, g)) := by
  intro D cI cJ cZ a sz
  refine mg_body (by decide +kernel) rfl (Nat.le_of_ble_eq_true rfl) ?_
  intro p e s m args below meth c hsz C
  clear hsz
  generalize va_A (mW cI cJ cZ a v f g) sz = A at C ⊢
  refine mg_lv (lv' := [(0, .ref (a 0)), (1, .long stem)]) rfl ?_
  refine mg_iconst C (x := nI 0) rfl dX12_isStop_0 ?_
  refine mg_cast (bI false) rfl ?_
  refine mg_istore_n C (i := 3) (lv' := [(3, .int (bI false)), (0, .ref (a 0)), (1, .long stem)]) rfl (Nat.le_of_ble_eq_true rfl) rfl dX12_isStop_1 ?_
  refine mg_iconst C (x := nI 0) rfl dX12_isStop_2 ?_
  refine mg_istore C (lv' := [(4, .int (nI 0)), (3, .int (bI false)), (0, .ref (a 0)), (1, .long stem)]) (Nat.le_of_ble_eq_true rfl) rfl dX12_isStop_3 ?_
  refine mg_loop (X := Nat × Bool) (fun y_ => (y_.1 ≤ n) ∧ (y_.2 = anyB (fun j => g 4 j == stem) y_.1)) (fun y_ => n - y_.1) (fun y_ => [(3, .int (bI y_.2)), (4, .int (nI y_.1)), (0, .ref (a 0)), (1, .long stem)]) (fun y_ => (v, f, g)) (0, false) [1, 0, 2, 3] rfl rfl ⟨by omega, rfl⟩ ?_
  rintro ⟨k, is⟩ hI_ ih_5
  dsimp only at hI_ ih_5 ⊢
  obtain ⟨hk, hi⟩ := hI_
  refine mg_iload C 1 rfl dX12_isStop_5 ?_
  refine mg_aload_n C (i := 0) rfl 2 rfl dX12_isStop_7 ?_
  refine mg_getI C (k := 6) (by decide) rfl mL_stopped rfl dX12_isStop_8 ?_
  refine mg_cast (nI n) hv ?_
  refine mg_icmp_geN C (by omega) (by omega) 42 (by decide) dX12_isStop_11 (fun c_11 => ?_) (fun c_11 => ?_)
  · refine mg_iload_n C (i := 3) rfl 0 rfl dX12_isStop_42 ?_
    exact mg_zret C (bI_nar _) ⟨by rw [hi, show k = n by omega], rfl⟩ dX12_isStop_43
  · refine mg_iload_n C (i := 3) rfl 0 rfl dX12_isStop_14 ?_
    refine mg_if_neB C 30 (by decide) dX12_isStop_15 (fun c_15 => ?_) (fun c_15 => ?_)
    · refine mg_iconst C (x := nI 1) rfl dX12_isStop_30 ?_
      refine mg_goto C 35 (by decide) dX12_isStop_31 ?_
      refine mg_cast (bI true) rfl ?_
      refine mg_istore_n C (i := 3) (lv' := [(3, .int (bI true)), (4, .int (nI k)), (0, .ref (a 0)), (1, .long stem)]) rfl (Nat.le_of_ble_eq_true rfl) rfl dX12_isStop_35 ?_
      refine mg_iincN C (lv' := [(4, .int (nI (k + 1))), (3, .int (bI true)), (0, .ref (a 0)), (1, .long stem)]) 1 1 rfl rfl (Nat.le_of_ble_eq_true rfl) rfl dX12_isStop_36 ?_
      refine mg_goto C 5 (by decide) dX12_isStop_39 ?_
      exact mg_sub [1, 0, 2, 3] rfl (ih_5 ((k + 1), true) ⟨by omega, by first | exact (anyB_s1 (hi.symm.trans c_15)).symm | exact Eq.symm (by exact anyB_s2 (beq_iff_eq.mpr c_27)) | exact Eq.symm (by exact anyB_s0 (hi.symm.trans c_15) (beq_eq_false_iff_ne.mpr c_27))⟩ (by omega))
    · refine mg_aload_n C (i := 0) rfl 2 rfl dX12_isStop_18 ?_
      refine mg_arr C 4 (by decide) (by decide) rfl mL_stops rfl dX12_isStop_19 ?_
      refine mg_iload C 1 rfl dX12_isStop_22 ?_
      refine mg_laload C (n := 10) 4 k (by decide) (by decide) rfl rfl (by omega) (by decide) dX12_isStop_24 ?_
      refine mg_lload_n C (i := 1) rfl 3 rfl dX12_isStop_25 ?_
      refine mg_lcmp C dX12_isStop_26 ?_
      refine mg_if_neL C 34 (by decide) dX12_isStop_27 (fun c_27 => ?_) (fun c_27 => ?_)
      · refine mg_iconst C (x := nI 0) rfl dX12_isStop_34 ?_
        refine mg_cast (bI false) rfl ?_
        refine mg_istore_n C (i := 3) (lv' := [(3, .int (bI false)), (4, .int (nI k)), (0, .ref (a 0)), (1, .long stem)]) rfl (Nat.le_of_ble_eq_true rfl) rfl dX12_isStop_35 ?_
        refine mg_iincN C (lv' := [(4, .int (nI (k + 1))), (3, .int (bI false)), (0, .ref (a 0)), (1, .long stem)]) 1 1 rfl rfl (Nat.le_of_ble_eq_true rfl) rfl dX12_isStop_36 ?_
        refine mg_goto C 5 (by decide) dX12_isStop_39 ?_
        exact mg_sub [1, 0, 2, 3] rfl (ih_5 ((k + 1), false) ⟨by omega, by first | exact (anyB_s1 (hi.symm.trans c_15)).symm | exact Eq.symm (by exact anyB_s2 (beq_iff_eq.mpr c_27)) | exact Eq.symm (by exact anyB_s0 (hi.symm.trans c_15) (beq_eq_false_iff_ne.mpr c_27))⟩ (by omega))
      · refine mg_iconst C (x := nI 1) rfl dX12_isStop_30 ?_
        refine mg_goto C 35 (by decide) dX12_isStop_31 ?_
        refine mg_cast (bI true) rfl ?_
        refine mg_istore_n C (i := 3) (lv' := [(3, .int (bI true)), (4, .int (nI k)), (0, .ref (a 0)), (1, .long stem)]) rfl (Nat.le_of_ble_eq_true rfl) rfl dX12_isStop_35 ?_
        refine mg_iincN C (lv' := [(4, .int (nI (k + 1))), (3, .int (bI true)), (0, .ref (a 0)), (1, .long stem)]) 1 1 rfl rfl (Nat.le_of_ble_eq_true rfl) rfl dX12_isStop_36 ?_
        refine mg_goto C 5 (by decide) dX12_isStop_39 ?_
        exact mg_sub [1, 0, 2, 3] rfl (ih_5 ((k + 1), true) ⟨by omega, by first | exact (anyB_s1 (hi.symm.trans c_15)).symm | exact Eq.symm (by exact anyB_s2 (beq_iff_eq.mpr c_27)) | exact Eq.symm (by exact anyB_s0 (hi.symm.trans c_15) (beq_eq_false_iff_ne.mpr c_27))⟩ (by omega))
