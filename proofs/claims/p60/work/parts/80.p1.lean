/-! the reference, leaves: signs, words, stems -/
def inB (x a b : Int32) : Bool := decide (a ≤ x) && decide (x ≤ b)
def inN (x a b : Nat) : Bool := decide (a ≤ x) && decide (x ≤ b)
theorem inB_lo {x a b : Int32} (h : x < a) : inB x a b = false := by
  have : ¬ a ≤ x := by rw [Int32.le_iff_toInt_le]; rw [Int32.lt_iff_toInt_lt] at h; omega
  simp [inB, this]
theorem inB_hi {x a b : Int32} (h : b < x) : inB x a b = false := by
  have : ¬ x ≤ b := by rw [Int32.le_iff_toInt_le]; rw [Int32.lt_iff_toInt_lt] at h; omega
  simp [inB, this]
theorem inB_t {x a b : Int32} (h : ¬ x < a) (h2 : ¬ b < x) : inB x a b = true := by
  have h3 : a ≤ x := by rw [Int32.le_iff_toInt_le]; rw [Int32.lt_iff_toInt_lt] at h; omega
  have h4 : x ≤ b := by rw [Int32.le_iff_toInt_le]; rw [Int32.lt_iff_toInt_lt] at h2; omega
  simp [inB, h3, h4]
theorem inB_N {x a b : Nat} (hx : x < 2 ^ 31) (ha : a < 2 ^ 31) (hb : b < 2 ^ 31) : inB (nI x) (nI a) (nI b) = inN x a b := by
  simp [inB, inN, nI_leI ha hx, nI_leI hx hb]
/-- what goes leaves: 0, or which of the three fails first -/
def goX (b1 b2 b3 : Bool) : Int32 := if b1 = false then 1 else if b2 = false then 2 else if b3 = false then 3 else 0
/-- the figure of a sign -/
def figN (x : Nat) : Nat := if inN x 48 57 then x - 48 + 1 else if inN x 97 122 then x - 97 + 11 else if inN x 65 90 then x - 65 + 11 else 0
theorem inN_t {x a b : Nat} (h : inN x a b = true) : a ≤ x ∧ x ≤ b := by simpa [inN] using h
theorem figN_1 {x : Nat} (h : inN x 48 57 = true) : figN x = x - 48 + 1 := by simp [figN, h]
theorem figN_2 {x : Nat} (h : inN x 48 57 = false) (h2 : inN x 97 122 = true) : figN x = x - 97 + 11 := by simp [figN, h, h2]
theorem figN_3 {x : Nat} (h : inN x 48 57 = false) (h2 : inN x 97 122 = false) (h3 : inN x 65 90 = true) : figN x = x - 65 + 11 := by simp [figN, h, h2, h3]
theorem figN_0 {x : Nat} (h : inN x 48 57 = false) (h2 : inN x 97 122 = false) (h3 : inN x 65 90 = false) : figN x = 0 := by simp [figN, h, h2, h3]
theorem figN_lt (x : Nat) : figN x < 37 := by
  unfold figN inN
  split
  · rename_i h; simp at h; omega
  · split
    · rename_i h; simp at h; omega
    · split
      · rename_i h; simp at h; omega
      · omega
/-- a figure of a word of twelve, by 37 -/
def dg (w k : Nat) : Nat := w / 37 ^ (11 - k) % 37
theorem dg_lt (w k : Nat) : dg w k < 37 := Nat.mod_lt _ (by decide)
theorem p37_pos (k : Nat) : 0 < 37 ^ k := Nat.pow_pos (by decide)
theorem p37_lt {k : Nat} (h : k ≤ 11) : 37 ^ k < 2 ^ 63 := Nat.lt_of_le_of_lt (Nat.pow_le_pow_right (by decide) h) (by decide)
/-- the least k below n with q k, else n -/
def fst0 (q : Nat → Bool) : Nat → Nat
  | 0 => 0
  | n + 1 => if fst0 q n < n then fst0 q n else if q n then n else n + 1
theorem fst0_le (q : Nat → Bool) : ∀ n, fst0 q n ≤ n
  | 0 => Nat.le_refl 0
  | n + 1 => by
    have h := fst0_le q n
    unfold fst0
    split
    · omega
    · split <;> omega
theorem fst0_all {q : Nat → Bool} : ∀ {n : Nat}, (∀ j, j < n → q j = false) → fst0 q n = n
  | 0, _ => rfl
  | n + 1, h => by
    unfold fst0
    rw [fst0_all (fun j hj => h j (by omega)), if_neg (Nat.lt_irrefl n), if_neg (by rw [h n (by omega)]; decide)]
theorem fst0_eq {q : Nat → Bool} {k : Nat} (h1 : ∀ j, j < k → q j = false) (h2 : q k = true) : ∀ {n : Nat}, k < n → fst0 q n = k
  | 0, h => absurd h (Nat.not_lt_zero k)
  | n + 1, h => by
    rcases Nat.lt_or_ge k n with q1 | q1
    · unfold fst0
      rw [fst0_eq h1 h2 q1, if_pos q1]
    · have : k = n := by omega
      subst this
      unfold fst0
      rw [fst0_all h1, if_neg (Nat.lt_irrefl _), if_pos h2]
theorem fst0_pre {q : Nat → Bool} : ∀ {n j : Nat}, j < fst0 q n → q j = false
  | 0, j, h => absurd h (Nat.not_lt_zero j)
  | n + 1, j, h => by
    unfold fst0 at h
    have hl := fst0_le q n
    split at h
    · exact fst0_pre h
    · rename_i h0
      have e : fst0 q n = n := by omega
      split at h
      · exact fst0_pre (n := n) (by omega)
      · rename_i h3
        rcases Nat.lt_or_ge j n with q1 | q1
        · exact fst0_pre (n := n) (by omega)
        · have : j = n := by omega
          subst this
          simpa using h3
theorem fst0_at {q : Nat → Bool} : ∀ {n : Nat}, fst0 q n < n → q (fst0 q n) = true
  | 0, h => absurd h (Nat.not_lt_zero _)
  | n + 1, h => by
    have hl := fst0_le q n
    unfold fst0 at h ⊢
    split
    · rename_i h0; exact fst0_at h0
    · rename_i h0
      split
      · rename_i h3; exact h3
      · rename_i h3; rw [if_neg h0, if_neg h3] at h; omega
/-- how many signs a word has -/
theorem lnW_exN (w N : Nat) : ∃ n, n ≤ N ∧ (∀ j, j < n → 0 < dg w j) ∧ (n < N → dg w n = 0) := by
  refine ⟨fst0 (fun k => dg w k == 0) N, fst0_le _ _, fun j h => ?_, fun h => ?_⟩
  · have h1 := fst0_pre h
    exact Nat.pos_of_ne_zero (beq_eq_false_iff_ne.mp h1)
  · have h1 := fst0_at h
    exact beq_iff_eq.mp h1
theorem lnW_ex (w : Nat) : ∃ n, n ≤ 12 ∧ (∀ j, j < n → 0 < dg w j) ∧ (n < 12 → dg w n = 0) := lnW_exN w 12
noncomputable def lnW (w : Nat) : Nat := Classical.choose (lnW_ex w)
theorem lnW_le (w : Nat) : lnW w ≤ 12 := (Classical.choose_spec (lnW_ex w)).1
theorem lnW_pos {w j : Nat} (h : j < lnW w) : 0 < dg w j := (Classical.choose_spec (lnW_ex w)).2.1 j h
theorem lnW_end {w : Nat} (h : lnW w < 12) : dg w (lnW w) = 0 := (Classical.choose_spec (lnW_ex w)).2.2 h
theorem lnW_eq {w n : Nat} (hn : n ≤ 12) (h1 : ∀ j, j < n → 0 < dg w j) (h2 : n < 12 → dg w n = 0) : lnW w = n := by
  have hl := lnW_le w
  rcases Nat.lt_trichotomy (lnW w) n with h | h | h
  · have a := h1 _ h
    have b := lnW_end (w := w) (by omega)
    omega
  · exact h
  · have a := lnW_pos h
    have b := h2 (by omega)
    omega
/-- the first n signs of a word -/
def cutW (w n : Nat) : Nat := w / 37 ^ (12 - n) * 37 ^ (12 - n)
theorem cutW_le (w n : Nat) : cutW w n ≤ w := Nat.div_mul_le_self _ _
def endW (w n x b : Nat) : Bool := decide (b < n) && (dg w (n - 1 - b) == figN x)
theorem endW_0 {w n x b : Nat} (h : n ≤ b) : endW w n x b = false := by
  unfold endW; rw [decide_eq_false (by omega), Bool.false_and]
theorem endW_1 {w n x b : Nat} (h : b < n) (h2 : ¬ dg w (n - 1 - b) = figN x) : endW w n x b = false := by
  unfold endW; rw [beq_eq_false_iff_ne.mpr h2, Bool.and_false]
theorem endW_2 {w n x b : Nat} (h : b < n) (h2 : dg w (n - 1 - b) = figN x) : endW w n x b = true := by
  unfold endW; rw [decide_eq_true h, beq_iff_eq.mpr h2]; rfl
/-- the stem of a word -/
noncomputable def stW (w : Nat) : Nat :=
  if 6 ≤ lnW w ∧ endW w (lnW w) 103 0 ∧ endW w (lnW w) 110 1 ∧ endW w (lnW w) 105 2 then cutW w (lnW w - 3)
  else if 5 ≤ lnW w ∧ endW w (lnW w) 100 0 ∧ endW w (lnW w) 101 1 then cutW w (lnW w - 2)
  else if 4 ≤ lnW w ∧ endW w (lnW w) 115 0 ∧ ¬ endW w (lnW w) 115 1 then cutW w (lnW w - 1) else w
theorem stW_le (w : Nat) : stW w ≤ w := by
  unfold stW
  split
  · exact cutW_le _ _
  · split
    · exact cutW_le _ _
    · split
      · exact cutW_le _ _
      · exact Nat.le_refl _
theorem anyB_s1 {q : Nat → Bool} {k : Nat} (h : anyB q k = true) : anyB q (k + 1) = true := by rw [anyB, h, Bool.true_or]
theorem anyB_s2 {q : Nat → Bool} {k : Nat} (h : q k = true) : anyB q (k + 1) = true := by rw [anyB, h, Bool.or_true]
theorem anyB_s0 {q : Nat → Bool} {k : Nat} (h : anyB q k = false) (h2 : q k = false) : anyB q (k + 1) = false := by rw [anyB, h, h2]; rfl
abbrev mPow (g : Nat → Nat → Int64) : Prop := ∀ k, k < 12 → g 1 k = lN (37 ^ (11 - k))
