/-! counting files, both worlds -/
theorem cntB_zero {f : Nat → Bool} : ∀ {N : Nat}, (∀ i, i < N → f i = false) → cntB f N = 0
  | 0, _ => rfl
  | N + 1, h => by
    rw [cntB, cntB_zero (fun i hi => h i (by omega)), h N (Nat.lt_succ_self N)]
    rfl
theorem cntB_one {f h : Nat → Bool} {n : Nat} (h1 : f n = true) (h2 : h n = false) (h3 : ∀ i, i ≠ n → f i = h i) : ∀ {N : Nat}, n < N → cntB f N = cntB h N + 1
  | 0, hN => absurd hN (Nat.not_lt_zero n)
  | N + 1, hN => by
    rw [cntB, cntB]
    by_cases c : N = n
    · subst c
      rw [cntB_ext (f := f) (h := h) (n := N) (fun i hi => h3 i (by omega)), h1, h2]
      rfl
    · rw [cntB_one h1 h2 h3 (N := N) (by omega), h3 N c]
      omega
/-- how many segments are met for the first time -/
theorem seenF_cnt {N : Nat} : ∀ (l : List Nat) (f : Nat → Bool), (∀ n, n ∈ l → n < N) → (seenF f l).2 = cntB (fun n => decide (n ∈ l) && !f n) N
  | [], f, _ => (cntB_zero (fun i _ => by simp)).symm
  | n :: l, f, h => by
    have hn := h n List.mem_cons_self
    have hl : ∀ i, i ∈ l → i < N := fun i hi => h i (List.mem_cons_of_mem _ hi)
    rw [seenF]
    by_cases c : f n = true
    · rw [if_pos c, seenF_cnt l f hl]
      refine cntB_ext (fun i _ => ?_)
      by_cases e : i = n
      · subst e; rw [c]; simp
      · simp [e]
    · rw [if_neg c]
      show (seenF (upR f n true) l).2 + 1 = _
      rw [seenF_cnt l (upR f n true) hl]
      refine (cntB_one (n := n) ?_ ?_ (fun i hi => ?_) hn).symm
      · show (decide (n ∈ n :: l) && !f n) = true
        rw [Bool.eq_false_iff.mpr c]; simp
      · show (decide (n ∈ l) && !upR f n true n) = false
        rw [upR_s]; simp
      · show (decide (i ∈ n :: l) && !f i) = (decide (i ∈ l) && !upR f n true i)
        rw [upR_n hi]; simp [hi]
theorem smN_2 {f h : Nat → Nat} : ∀ {N : Nat}, smN (fun n => f n + h n) N = smN f N + smN h N
  | 0 => rfl
  | N + 1 => by
    rw [smN_s, smN_s, smN_s, smN_2 (N := N)]
    show smN f N + smN h N + (f N + h N) = _
    omega
theorem cntB_smN {f : Nat → Bool} : ∀ {N : Nat}, cntB f N = smN (fun n => if f n = true then 1 else 0) N
  | 0 => rfl
  | N + 1 => by rw [cntB, smN_s, cntB_smN (N := N)]
theorem smN_ex {f h : Nat → Nat} : ∀ {N : Nat}, (∀ i, i < N → f i = h i) → smN f N = smN h N
  | 0, _ => rfl
  | N + 1, e => by rw [smN_s, smN_s, smN_ex (fun i hi => e i (by omega)), e N (Nat.lt_succ_self N)]
theorem sumL_cnt {N : Nat} {p : Nat → Bool} : ∀ {l : List Nat}, l.Nodup → (∀ n, n ∈ l → n < N) → sumL (fun n => if p n = true then 1 else 0) l = cntB (fun n => decide (n ∈ l) && p n) N
  | [], _, _ => (cntB_zero (fun i _ => by simp)).symm
  | n :: l, hd, h => by
    obtain ⟨h1, h2⟩ := List.nodup_cons.mp hd
    have ih := sumL_cnt (p := p) (l := l) h2 (fun i hi => h i (List.mem_cons_of_mem _ hi))
    rw [sumL, ih]
    by_cases c : p n = true
    · rw [if_pos c]
      rw [cntB_one (f := fun i => decide (i ∈ n :: l) && p i) (h := fun i => decide (i ∈ l) && p i) (n := n) (by simp [c]) (by simp [h1]) (fun i hi => by simp [hi]) (h n List.mem_cons_self)]
      omega
    · rw [if_neg c, Nat.zero_add]
      refine cntB_ext (fun i _ => ?_)
      by_cases e : i = n
      · subst e; simp [Bool.eq_false_iff.mpr c]
      · simp [e]

