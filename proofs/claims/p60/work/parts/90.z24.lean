/-! four windows are enough -/
theorem plc_head {mk b p : Nat} {t : List Nat} : ∀ {k a : Nat}, plc mk k a = b :: t → p ∈ plc mk k a → b ≤ p
  | 0, a, h, _ => absurd h (by rw [plc]; simp)
  | k + 1, a, h, hp => by
    rw [plc] at h hp
    by_cases c : mk.testBit a = true
    · rw [if_pos c] at h
      have e : a = b := (List.cons.inj h).1
      rw [← e]
      have : p ∈ plc mk (k + 1) a := by rw [plc]; exact hp
      exact (plc_mem.mp this).1
    · rw [if_neg c] at h hp
      exact plc_head (k := k) (a := a + 1) h hp
theorem take1_of {l : List Nat} {p : Nat} (h : p ∈ l) : ∃ b t, l = b :: t ∧ l.take 1 = [b] := by
  cases l with
  | nil => exact absurd h List.not_mem_nil
  | cons b t => exact ⟨b, t, rfl, rfl⟩
/-- the first place of each window -/
def w4L (mk : Nat) : List Nat := (plc mk 6 0).take 1 ++ ((plc mk 6 6).take 1 ++ ((plc mk 6 12).take 1 ++ (plc mk 2 18).take 1))
theorem w4L_sub (mk : Nat) : (w4L mk).Sublist (plc mk 20 0) := by
  have e : plc mk 20 0 = plc mk 6 0 ++ (plc mk 6 6 ++ (plc mk 6 12 ++ plc mk 2 18)) := by
    rw [show (20 : Nat) = 6 + 14 from rfl, plc_add, Nat.zero_add, show (14 : Nat) = 6 + 8 from rfl, plc_add (j := 6) (k := 8), show 6 + 6 = 12 from rfl, show (8 : Nat) = 6 + 2 from rfl, plc_add (j := 6) (k := 2)]
  rw [e]
  exact (List.take_sublist _ _).append ((List.take_sublist _ _).append ((List.take_sublist _ _).append (List.take_sublist _ _)))
theorem w4L_cov {mk p : Nat} (hp : p < 20) (h : mk.testBit p = true) : ∃ b, b ∈ w4L mk ∧ b ≤ p ∧ p < b + 6 := by
  have win : ∀ j w, w ≤ p → p < w + j → j ≤ 6 → ∃ b, b ∈ (plc mk j w).take 1 ∧ b ≤ p ∧ p < b + 6 := by
    intro j w h1 h2 h3
    have hm : p ∈ plc mk j w := plc_mem.mpr ⟨h1, h2, h⟩
    obtain ⟨b, t, e1, e2⟩ := take1_of hm
    have hb : b ∈ plc mk j w := by rw [e1]; exact List.mem_cons_self
    have h4 := (plc_mem.mp hb).1
    have h5 := plc_head e1 hm
    exact ⟨b, by rw [e2]; exact List.mem_singleton.mpr rfl, h5, by omega⟩
  unfold w4L
  rcases Nat.lt_or_ge p 6 with z | z
  · obtain ⟨b, h1, h2⟩ := win 6 0 (by omega) (by omega) (by omega)
    exact ⟨b, List.mem_append.mpr (Or.inl h1), h2⟩
  rcases Nat.lt_or_ge p 12 with z2 | z2
  · obtain ⟨b, h1, h2⟩ := win 6 6 (by omega) (by omega) (by omega)
    exact ⟨b, List.mem_append.mpr (Or.inr (List.mem_append.mpr (Or.inl h1))), h2⟩
  rcases Nat.lt_or_ge p 18 with z3 | z3
  · obtain ⟨b, h1, h2⟩ := win 6 12 (by omega) (by omega) (by omega)
    exact ⟨b, List.mem_append.mpr (Or.inr (List.mem_append.mpr (Or.inr (List.mem_append.mpr (Or.inl h1))))), h2⟩
  · obtain ⟨b, h1, h2⟩ := win 2 18 (by omega) (by omega) (by omega)
    exact ⟨b, List.mem_append.mpr (Or.inr (List.mem_append.mpr (Or.inr (List.mem_append.mpr (Or.inr h1))))), h2⟩
theorem w4L_len (mk : Nat) : (w4L mk).length ≤ 4 := by
  unfold w4L
  rw [List.length_append, List.length_append, List.length_append, List.length_take, List.length_take, List.length_take, List.length_take]
  omega
/-- leaves' marks are marks -/
def spOk (sp : Nat → Option Nat) (k : Nat) : Prop := k ≤ 24 ∧ (∀ i, k ≤ i → sp i = none) ∧ ∀ i m, sp i = some m → m ≠ 0 ∧ m < 2 ^ 20
theorem sp_mkF {sp : Nat → Option Nat} {k : Nat} (h : spOk sp k) : mkF sp k < 2 ^ 20 := mkF_lt (fun i => by
  cases e : sp i with
  | none => exact Nat.two_pow_pos 20
  | some m => exact (h.2.2 i m e).2) k
theorem cov4 {sp : Nat → Option Nat} {k : Nat} (h : spOk sp k) (h0 : mkF sp k ≠ 0) : ∃ c, 1 ≤ c ∧ c ≤ 4 ∧ fpN sp (mkF sp k) c [] ≠ none := by
  obtain ⟨mk, hmk⟩ : ∃ mk, mk = mkF sp k := ⟨_, rfl⟩
  have lt := sp_mkF h
  rw [← hmk] at h0 lt ⊢
  have bit : ∀ m, m ≠ 0 → m < 2 ^ 20 → ∃ p, p < 20 ∧ m.testBit p = true := by
    intro m h1 h2
    by_cases c : ∃ p, p < 20 ∧ m.testBit p = true
    · exact c
    · refine absurd (Nat.eq_of_testBit_eq (fun p => ?_)) h1
      rw [Nat.zero_testBit]
      cases hb : m.testBit p with
      | false => rfl
      | true =>
        rcases Nat.lt_or_ge p 20 with z | z
        · exact absurd ⟨p, z, hb⟩ c
        · rw [Nat.testBit_lt_two_pow (Nat.lt_of_lt_of_le h2 (Nat.pow_le_pow_right (by decide) z))] at hb
          exact absurd hb (by decide)
  obtain ⟨p0, hp0, hb0⟩ := bit mk h0 lt
  obtain ⟨b0, hb1, -⟩ := w4L_cov hp0 hb0
  have hne : w4L mk ≠ [] := fun e => by rw [e] at hb1; exact absurd hb1 List.not_mem_nil
  have hl : 1 ≤ (w4L mk).length := by
    rcases Nat.lt_or_ge (w4L mk).length 1 with z | z
    · exact absurd (List.eq_nil_of_length_eq_zero (by omega)) hne
    · exact z
  refine ⟨(w4L mk).length, hl, w4L_len mk, ?_⟩
  rw [fpN_0]
  intro e
  have := List.find?_eq_none.mp e (w4L mk) (cmbL_sub (w4L_sub mk))
  refine this ?_
  rw [cvB_ml h.1 h.2.1 (orP_ne hne)]
  intro m hm z
  obtain ⟨i, hi, hs⟩ := mlL_mem.mp hm
  obtain ⟨m1, m2⟩ := h.2.2 i m hs
  obtain ⟨p, hp, hb⟩ := bit m m1 m2
  have hmkb : mk.testBit p = true := by rw [hmk]; exact mkF_ml.mpr ⟨m, hm, hb⟩
  have hor : (orP (w4L mk)).testBit p = true := orP_tb.mpr (w4L_cov hp hmkb)
  have : (m &&& orP (w4L mk)).testBit p = true := by rw [Nat.testBit_and, hb, hor]; rfl
  rw [z, Nat.zero_testBit] at this
  exact absurd this (by decide)
theorem psG_some {sp : Nat → Option Nat} {mk c : Nat} {l : List Nat} (h : fpN sp mk c [] = some l) : ∀ {r c0 : Nat}, c0 ≤ c → c < c0 + r → (∀ c', c0 ≤ c' → c' < c → fpN sp mk c' [] = none) → psG sp mk r c0 = l
  | 0, c0, h1, h2, _ => by omega
  | r + 1, c0, h1, h2, hn => by
    rw [psG]
    by_cases z : c0 = c
    · subst z; rw [h]
    · rw [hn c0 (Nat.le_refl _) (by omega)]
      exact psG_some h (by omega) (by omega) (fun c' a b => hn c' (by omega) b)
theorem psG_none {sp : Nat → Option Nat} {mk : Nat} : ∀ {r c0 : Nat}, (∀ c', c0 ≤ c' → c' < c0 + r → fpN sp mk c' [] = none) → psG sp mk r c0 = []
  | 0, _, _ => rfl
  | r + 1, c0, hn => by
    rw [psG, hn c0 (Nat.le_refl _) (by omega)]
    exact psG_none (fun c' a b => hn c' (by omega) (by omega))
/-- where all from here on are greatest, nothing comes next -/
theorem nxC_no {n : Nat} : ∀ {t : List Nat}, t.length ≤ n → (∀ j i, t[j]? = some i → i + t.length = n + j) → nxC n t = none
  | [], _, _ => rfl
  | i :: t, hl, h => by
    have hl' : t.length + 1 ≤ n := hl
    have ih := nxC_no (n := n) (t := t) (by omega) (fun j i' hj => by
      have : i' + (t.length + 1) = n + (j + 1) := h (j + 1) i' hj
      omega)
    have e : i + (t.length + 1) = n + 0 := h 0 i rfl
    rw [nxC, ih, if_neg (by omega)]
theorem nxC_at {n i : Nat} {t : List Nat} (hl : t.length < n) (h : ∀ j i', t[j]? = some i' → i' + t.length = n + j) (hi : i + (t.length + 1) < n) : ∀ pre : List Nat, nxC n (pre ++ i :: t) = some (pre ++ List.range' (i + 1) (t.length + 1))
  | [] => by
    show nxC n (i :: t) = some (List.range' (i + 1) (t.length + 1))
    rw [nxC, nxC_no (by omega) h, if_pos (by omega)]
  | p :: pre => by
    show nxC n (p :: (pre ++ i :: t)) = some (p :: (pre ++ _))
    rw [nxC, nxC_at hl h hi pre]

