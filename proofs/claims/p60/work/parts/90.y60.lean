/-! words that are like a pattern, words that are edited -/
/-- each "*" may stand for no signs -/
def weS (pt : Nat → Nat) (x : Nat) : Nat → Nat
  | 0 => x
  | j + 1 => if pt j = 38 ∧ (weS pt x j).testBit j = true then weS pt x j ||| 2 ^ (j + 1) else weS pt x j
/-- one sign more -/
def nxS (pt : Nat → Nat) (R c : Nat) : Nat → Nat
  | 0 => 0
  | j + 1 => if R.testBit j = true then (if pt j = 38 then nxS pt R c j ||| 2 ^ j else if pt j = 37 ∨ pt j = c then nxS pt R c j ||| 2 ^ (j + 1) else nxS pt R c j) else nxS pt R c j
/-- what is reached after i signs -/
def lkS (pt : Nat → Nat) (n : Nat) (w : Nat → Nat) : Nat → Nat
  | 0 => weS pt 1 n
  | i + 1 => weS pt (nxS pt (lkS pt n w i) (w i) n) n
theorem weS_lt {pt : Nat → Nat} {x N : Nat} (hx : x < 2 ^ N) : ∀ {j : Nat}, j < N → weS pt x j < 2 ^ N
  | 0, _ => hx
  | j + 1, h => by
    rw [weS]
    have := weS_lt (pt := pt) hx (j := j) (by omega)
    split
    · exact Nat.or_lt_two_pow this (Nat.pow_lt_pow_right (by decide) h)
    · exact this
theorem nxS_lt {pt : Nat → Nat} {R c N : Nat} : ∀ {j : Nat}, j < N → nxS pt R c j < 2 ^ N
  | 0, _ => Nat.two_pow_pos N
  | j + 1, h => by
    rw [nxS]
    have := nxS_lt (pt := pt) (R := R) (c := c) (N := N) (j := j) (by omega)
    split
    · split
      · exact Nat.or_lt_two_pow this (Nat.pow_lt_pow_right (by decide) (by omega))
      · split
        · exact Nat.or_lt_two_pow this (Nat.pow_lt_pow_right (by decide) h)
        · exact this
    · exact this
theorem lkS_lt {pt : Nat → Nat} {n : Nat} {w : Nat → Nat} : ∀ i : Nat, lkS pt n w i < 2 ^ (n + 1)
  | 0 => weS_lt (by have := Nat.pow_le_pow_right (show 0 < 2 by decide) (show 1 ≤ n + 1 by omega); omega) (by omega)
  | i + 1 => weS_lt (nxS_lt (by omega)) (by omega)
/-- the first k elements of the pattern stand for the first j signs -/
def mtR (pt w : Nat → Nat) : Nat → Nat → Bool
  | 0, j => decide (j = 0)
  | k + 1, 0 => decide (pt k = 38) && mtR pt w k 0
  | k + 1, j + 1 => if pt k = 38 then mtR pt w k (j + 1) || mtR pt w (k + 1) j else mtR pt w k j && (decide (pt k = 37) || decide (pt k = w j))
/-- bit j after i signs -/
def biB (pt w : Nat → Nat) (n i j : Nat) : Bool := if j < n ∧ pt j = 38 then mtR pt w (j + 1) i else mtR pt w j i
theorem weS_tb {pt : Nat → Nat} {x b : Nat} : ∀ {n : Nat}, (weS pt x n).testBit b = (x.testBit b || match b with | 0 => false | j + 1 => decide (j < n) && (decide (pt j = 38) && (weS pt x j).testBit j))
  | 0 => by
    cases b with
    | zero => rw [weS, Bool.or_false]
    | succ j => rw [weS]; simp
  | n + 1 => by
    rw [weS]
    have ih := weS_tb (pt := pt) (x := x) (b := b) (n := n)
    by_cases c : pt n = 38 ∧ (weS pt x n).testBit n = true
    · rw [if_pos c, Nat.testBit_or, ih, Nat.testBit_two_pow]
      cases b with
      | zero => simp
      | succ j =>
        show ((_ || (decide (j < n) && _)) || decide (n + 1 = j + 1)) = (_ || (decide (j < n + 1) && _))
        by_cases e : j = n
        · subst e
          rw [decide_eq_false (Nat.lt_irrefl j), decide_eq_true (Nat.lt_succ_self j), c.2, decide_eq_true c.1]
          simp
        · have : decide (j < n + 1) = decide (j < n) := by
            by_cases q : j < n
            · rw [decide_eq_true q, decide_eq_true (by omega)]
            · rw [decide_eq_false q, decide_eq_false (by omega)]
          rw [this, decide_eq_false (show ¬ n + 1 = j + 1 by omega), Bool.or_false]
    · rw [if_neg c, ih]
      cases b with
      | zero => rfl
      | succ j =>
        show (_ || (decide (j < n) && _)) = (_ || (decide (j < n + 1) && _))
        by_cases e : j = n
        · subst e
          have : (decide (pt j = 38) && (weS pt x j).testBit j) = false := by
            cases h1 : decide (pt j = 38) with
            | false => rfl
            | true =>
              cases h2 : (weS pt x j).testBit j with
              | false => rfl
              | true => exact absurd ⟨of_decide_eq_true h1, h2⟩ c
          rw [this, Bool.and_false, Bool.and_false]
        · have : decide (j < n + 1) = decide (j < n) := by
            by_cases q : j < n
            · rw [decide_eq_true q, decide_eq_true (by omega)]
            · rw [decide_eq_false q, decide_eq_false (by omega)]
          rw [this]
/-- bits below a place don't change behind it -/
theorem weS_st {pt : Nat → Nat} {x j n : Nat} (h : j ≤ n) : (weS pt x n).testBit j = (weS pt x j).testBit j := by
  rw [weS_tb, weS_tb]
  cases j with
  | zero => rfl
  | succ j =>
    show (_ || (decide (j < n) && _)) = (_ || (decide (j < j + 1) && _))
    rw [decide_eq_true (show j < n by omega), decide_eq_true (Nat.lt_succ_self j)]
theorem weS_s {pt : Nat → Nat} {x j n : Nat} (h : j < n) : (weS pt x n).testBit (j + 1) = (x.testBit (j + 1) || (decide (pt j = 38) && (weS pt x n).testBit j)) := by
  rw [weS_tb]
  show (_ || (decide (j < n) && _)) = _
  rw [decide_eq_true h, Bool.true_and, weS_st (show j ≤ n by omega)]
theorem weS_0 {pt : Nat → Nat} {x n : Nat} : (weS pt x n).testBit 0 = x.testBit 0 := by rw [weS_tb, Bool.or_false]
theorem nxS_tb {pt : Nat → Nat} {R c b : Nat} : ∀ {n : Nat}, (nxS pt R c n).testBit b = ((decide (b < n) && (R.testBit b && decide (pt b = 38))) || match b with | 0 => false | j + 1 => decide (j < n) && (R.testBit j && (!decide (pt j = 38) && (decide (pt j = 37) || decide (pt j = c)))))
  | 0 => by
    cases b with
    | zero => simp [nxS]
    | succ j => simp [nxS]
  | n + 1 => by
    have ih := nxS_tb (pt := pt) (R := R) (c := c) (b := b) (n := n)
    have lt_s : ∀ k, k ≠ n → decide (k < n + 1) = decide (k < n) := fun k hk => by
      by_cases q : k < n
      · rw [decide_eq_true q, decide_eq_true (by omega)]
      · rw [decide_eq_false q, decide_eq_false (by omega)]
    have lt_n : decide (n < n) = false := decide_eq_false (Nat.lt_irrefl n)
    have lt_1 : decide (n < n + 1) = true := decide_eq_true (Nat.lt_succ_self n)
    rw [nxS]
    by_cases cR : R.testBit n = true
    · rw [if_pos cR]
      by_cases c38 : pt n = 38
      · rw [if_pos c38, Nat.testBit_or, ih, Nat.testBit_two_pow]
        by_cases e : b = n
        · subst e
          rw [lt_n, lt_1, cR, decide_eq_true c38, decide_eq_true rfl]
          cases b <;> simp
        · rw [lt_s b e, decide_eq_false (show ¬ n = b from fun h => e h.symm), Bool.or_false]
          cases b with
          | zero => rfl
          | succ j =>
            show (_ || (decide (j < n) && _)) = (_ || (decide (j < n + 1) && _))
            by_cases e2 : j = n
            · subst e2
              rw [decide_eq_true c38, Bool.not_true, Bool.false_and, Bool.and_false, Bool.and_false, Bool.and_false]
            · rw [lt_s j e2]
      · rw [if_neg c38]
        by_cases cc : pt n = 37 ∨ pt n = c
        · rw [if_pos cc, Nat.testBit_or, ih, Nat.testBit_two_pow]
          have hcc : (decide (pt n = 37) || decide (pt n = c)) = true := by
            rcases cc with h | h
            · rw [decide_eq_true h, Bool.true_or]
            · rw [decide_eq_true h, Bool.or_true]
          have hb : (decide (b < n + 1) && (R.testBit b && decide (pt b = 38))) = (decide (b < n) && (R.testBit b && decide (pt b = 38))) := by
            by_cases e : b = n
            · subst e; rw [decide_eq_false c38, Bool.and_false, Bool.and_false, Bool.and_false]
            · rw [lt_s b e]
          rw [hb]
          cases b with
          | zero => simp
          | succ j =>
            show ((_ || (decide (j < n) && _)) || decide (n + 1 = j + 1)) = (_ || (decide (j < n + 1) && _))
            by_cases e2 : j = n
            · subst e2
              rw [lt_n, lt_1, cR, decide_eq_false c38, hcc, decide_eq_true rfl]
              simp
            · rw [lt_s j e2, decide_eq_false (show ¬ n + 1 = j + 1 by omega), Bool.or_false]
        · rw [if_neg cc, ih]
          have hcc : (decide (pt n = 37) || decide (pt n = c)) = false := by
            rw [decide_eq_false (fun h => cc (Or.inl h)), decide_eq_false (fun h => cc (Or.inr h))]; rfl
          have hb : (decide (b < n + 1) && (R.testBit b && decide (pt b = 38))) = (decide (b < n) && (R.testBit b && decide (pt b = 38))) := by
            by_cases e : b = n
            · subst e; rw [decide_eq_false c38, Bool.and_false, Bool.and_false, Bool.and_false]
            · rw [lt_s b e]
          rw [hb]
          cases b with
          | zero => rfl
          | succ j =>
            show (_ || (decide (j < n) && _)) = (_ || (decide (j < n + 1) && _))
            by_cases e2 : j = n
            · subst e2; rw [hcc, Bool.and_false, Bool.and_false, Bool.and_false, Bool.and_false]
            · rw [lt_s j e2]
    · have cR : R.testBit n = false := Bool.eq_false_iff.mpr cR
      rw [if_neg (by rw [cR]; decide), ih]
      have hb : (decide (b < n + 1) && (R.testBit b && decide (pt b = 38))) = (decide (b < n) && (R.testBit b && decide (pt b = 38))) := by
        by_cases e : b = n
        · subst e; rw [cR, Bool.false_and, Bool.and_false, Bool.and_false]
        · rw [lt_s b e]
      rw [hb]
      cases b with
      | zero => rfl
      | succ j =>
        show (_ || (decide (j < n) && _)) = (_ || (decide (j < n + 1) && _))
        by_cases e2 : j = n
        · subst e2; rw [cR, Bool.false_and, Bool.and_false, Bool.and_false]
        · rw [lt_s j e2]
theorem bi_38 {pt w : Nat → Nat} {n i j : Nat} (h : j < n) (h2 : pt j = 38) : biB pt w n i j = mtR pt w (j + 1) i := if_pos ⟨h, h2⟩
theorem bi_n {pt w : Nat → Nat} {n i j : Nat} (h : ¬ (j < n ∧ pt j = 38)) : biB pt w n i j = mtR pt w j i := if_neg h
theorem mt_0 {pt w : Nat → Nat} {k : Nat} : mtR pt w (k + 1) 0 = (decide (pt k = 38) && mtR pt w k 0) := by rw [mtR]
theorem mt_s38 {pt w : Nat → Nat} {k i : Nat} (h : pt k = 38) : mtR pt w (k + 1) (i + 1) = (mtR pt w k (i + 1) || mtR pt w (k + 1) i) := by rw [mtR, if_pos h]
theorem mt_sn {pt w : Nat → Nat} {k i : Nat} (h : ¬ pt k = 38) : mtR pt w (k + 1) (i + 1) = (mtR pt w k i && (decide (pt k = 37) || decide (pt k = w i))) := by rw [mtR, if_neg h]
/-- the bits tell what matches -/
theorem lkS_bi {pt w : Nat → Nat} {n : Nat} : ∀ {i j : Nat}, j ≤ n → (lkS pt n w i).testBit j = biB pt w n i j
  | 0, 0, _ => by
    rw [lkS, weS_0]
    by_cases c : 0 < n ∧ pt 0 = 38
    · rw [bi_38 c.1 c.2, mt_0, decide_eq_true c.2, mtR]; rfl
    · rw [bi_n c, mtR]; rfl
  | 0, j + 1, h => by
    rw [lkS, weS_s (by omega)]
    have ih := lkS_bi (pt := pt) (w := w) (n := n) (i := 0) (j := j) (by omega)
    rw [lkS] at ih
    rw [ih, show (1 : Nat).testBit (j + 1) = false from by rw [Nat.testBit_succ]; exact Nat.zero_testBit j, Bool.false_or]
    have X : (decide (pt j = 38) && biB pt w n 0 j) = mtR pt w (j + 1) 0 := by
      by_cases c : pt j = 38
      · rw [bi_38 (by omega) c, decide_eq_true c, Bool.true_and]
      · rw [decide_eq_false c, Bool.false_and, mt_0, decide_eq_false c, Bool.false_and]
    rw [X]
    by_cases c : j + 1 < n ∧ pt (j + 1) = 38
    · rw [bi_38 c.1 c.2, mt_0 (k := j + 1), decide_eq_true c.2, Bool.true_and]
    · rw [bi_n c]
  | i + 1, 0, _ => by
    rw [lkS, weS_0, nxS_tb, Bool.or_false]
    have ih := lkS_bi (pt := pt) (w := w) (n := n) (i := i) (j := 0) (by omega)
    rw [ih]
    by_cases c : 0 < n ∧ pt 0 = 38
    · rw [bi_38 c.1 c.2, bi_38 c.1 c.2, decide_eq_true c.1, decide_eq_true c.2, Bool.true_and, Bool.and_true, mt_s38 c.2, show mtR pt w 0 (i + 1) = false by rw [mtR]; exact decide_eq_false (by omega), Bool.false_or]
    · rw [bi_n (i := i + 1) c, show mtR pt w 0 (i + 1) = false by rw [mtR]; exact decide_eq_false (by omega)]
      by_cases c1 : 0 < n
      · rw [decide_eq_false (fun h => c ⟨c1, h⟩), Bool.and_false, Bool.and_false]
      · rw [decide_eq_false c1, Bool.false_and]
  | i + 1, j + 1, h => by
    rw [lkS, weS_s (by omega)]
    have ih := lkS_bi (pt := pt) (w := w) (n := n) (i := i + 1) (j := j) (by omega)
    rw [lkS] at ih
    rw [ih, nxS_tb]
    have ih1 := lkS_bi (pt := pt) (w := w) (n := n) (i := i) (j := j + 1) h
    have ih2 := lkS_bi (pt := pt) (w := w) (n := n) (i := i) (j := j) (by omega)
    show (((decide (j + 1 < n) && ((lkS pt n w i).testBit (j + 1) && decide (pt (j + 1) = 38))) || (decide (j < n) && ((lkS pt n w i).testBit j && (!decide (pt j = 38) && (decide (pt j = 37) || decide (pt j = w i)))))) || (decide (pt j = 38) && biB pt w n (i + 1) j)) = _
    rw [ih1, ih2, decide_eq_true (show j < n by omega), Bool.true_and, Bool.or_assoc]
    have X : (biB pt w n i j && (!decide (pt j = 38) && (decide (pt j = 37) || decide (pt j = w i))) || (decide (pt j = 38) && biB pt w n (i + 1) j)) = mtR pt w (j + 1) (i + 1) := by
      by_cases c : pt j = 38
      · rw [decide_eq_true c, bi_38 (i := i + 1) (by omega) c, Bool.not_true, Bool.false_and, Bool.and_false, Bool.false_or, Bool.true_and]
      · rw [decide_eq_false c, Bool.not_false, Bool.true_and, Bool.false_and, Bool.or_false, bi_n (fun q => c q.2), mt_sn c]
    rw [X]
    by_cases c : j + 1 < n ∧ pt (j + 1) = 38
    · rw [bi_38 (i := i) c.1 c.2, bi_38 (i := i + 1) c.1 c.2, decide_eq_true c.1, decide_eq_true c.2, Bool.true_and, Bool.and_true, mt_s38 c.2, Bool.or_comm]
    · rw [bi_n (i := i + 1) c]
      by_cases c1 : j + 1 < n
      · rw [decide_eq_false (fun q => c ⟨c1, q⟩), Bool.and_false, Bool.and_false, Bool.false_or]
      · rw [decide_eq_false c1, Bool.false_and, Bool.false_or]
/-- the whole pattern stands for the word -/
theorem lkS_all {pt w : Nat → Nat} {n i : Nat} : (lkS pt n w i).testBit n = mtR pt w n i := by
  rw [lkS_bi (Nat.le_refl n), bi_n (fun q => Nat.lt_irrefl n q.1)]
/-- by how many edits the first signs are made to others -/
def edR (a b : Nat → Nat) : Nat → Nat → Nat
  | 0, j => j
  | i + 1, 0 => i + 1
  | i + 1, j + 1 => min (min (edR a b i (j + 1)) (edR a b (i + 1) j) + 1) (edR a b i j + (if a i = b j then 0 else 1))
theorem edR_0 {a b : Nat → Nat} {i : Nat} : edR a b i 0 = i := by
  cases i with
  | zero => rw [edR]
  | succ i => rw [edR]
theorem edR_sym {a b : Nat → Nat} : ∀ i j : Nat, edR a b i j = edR b a j i
  | 0, j => by rw [edR, edR_0]
  | i + 1, 0 => by rw [edR_0, edR]
  | i + 1, j + 1 => by
    rw [edR, edR, edR_sym i (j + 1), edR_sym (i + 1) j, edR_sym i j, Nat.min_comm (edR b a (j + 1) i)]
    have : (if a i = b j then (0 : Nat) else 1) = (if b j = a i then 0 else 1) := by
      by_cases c : a i = b j
      · rw [if_pos c, if_pos c.symm]
      · rw [if_neg c, if_neg (fun h => c h.symm)]
    rw [this]
theorem edR_ge {a b : Nat → Nat} : ∀ i j : Nat, i ≤ j + edR a b i j ∧ j ≤ i + edR a b i j ∧ edR a b i j ≤ i + j
  | 0, j => by rw [edR]; omega
  | i + 1, 0 => by rw [edR_0]; omega
  | i + 1, j + 1 => by
    have h1 := edR_ge (a := a) (b := b) i (j + 1)
    have h2 := edR_ge (a := a) (b := b) (i + 1) j
    have h3 := edR_ge (a := a) (b := b) i j
    rw [edR]
    have : (if a i = b j then (0 : Nat) else 1) ≤ 1 := by split <;> omega
    omega

