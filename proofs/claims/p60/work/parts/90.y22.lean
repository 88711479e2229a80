/-! the postings of a word in some documents -/
def pstOf (TL : Nat → List (Int64 × Nat)) (c : Int64) : Nat → List (Nat × Nat)
  | 0 => []
  | i + 1 => pstOf TL c i ++ (if pmk c (TL i) = 0 then [] else [(i, pmk c (TL i))])
/-- .. after t tokens of document i -/
def pstAt (TL : Nat → List (Int64 × Nat)) (i t : Nat) (c : Int64) : List (Nat × Nat) := pstOf TL c i ++ (if pmk c ((TL i).take t) = 0 then [] else [(i, pmk c (TL i))])
/-- a document's tokens: few, with places that rise, not twice the same -/
def okT (l : List (Int64 × Nat)) : Prop := l.length ≤ 220 ∧ (∀ x, x ∈ l → x.2 < 20) ∧ ∀ (a b : Nat) (x y : Int64 × Nat), a < b → l[a]? = some x → l[b]? = some y → x.2 ≤ y.2 ∧ x ≠ y
/-- the number of different tokens among the first of them -/
def fcN (l : List (Int64 × Nat)) : Nat → Nat
  | 0 => 0
  | t + 1 => fcN l t + (match l[t]? with
    | some x => if pmk x.1 (l.take t) = 0 then 1 else 0
    | none => 0)
theorem pmk_0 {c : Int64} {l : List (Int64 × Nat)} : pmk c l = 0 ↔ ∀ p, (c, p) ∉ l := by
  constructor
  · intro h p hp
    have := (pmk_tb c p l).mpr hp
    rw [h, Nat.zero_testBit] at this
    exact Bool.noConfusion this
  · intro h
    apply Nat.eq_of_testBit_eq
    intro j
    rw [Nat.zero_testBit, ← Bool.not_eq_true, pmk_tb]
    exact h j
theorem fcN_le (l : List (Int64 × Nat)) (t : Nat) : ∀ d : Nat, fcN l t ≤ fcN l (t + d)
  | 0 => Nat.le_refl _
  | d + 1 => Nat.le_trans (fcN_le l t d) (Nat.le_add_right _ _)
theorem fcN_s {l : List (Int64 × Nat)} {t : Nat} {x : Int64 × Nat} (h : l[t]? = some x) : fcN l (t + 1) = fcN l t + (if pmk x.1 (l.take t) = 0 then 1 else 0) := by
  rw [fcN, h]
theorem pstOf_ok {TL : Nat → List (Int64 × Nat)} {c : Int64} (hT : ∀ i, okT (TL i)) : ∀ {i : Nat}, i ≤ 100 → okP 0 (pstOf TL c i) ∧ lpP 0 (pstOf TL c i) ≤ i ∧ (pstOf TL c i).length ≤ i
  | 0, _ => ⟨trivial, Nat.le_refl _, Nat.le_refl _⟩
  | i + 1, h => by
    obtain ⟨h1, h2, h3⟩ := pstOf_ok (c := c) hT (i := i) (by omega)
    rw [pstOf]
    split
    · rw [List.append_nil]; exact ⟨h1, by omega, by omega⟩
    · rename_i hne
      refine ⟨okP_snoc (by omega) (pmk_lt (hT i).2.1) hne h1 h2, by rw [lpP_snoc]; omega, ?_⟩
      rw [List.length_append]
      show _ + 1 ≤ i + 1
      omega
theorem pstAt_0 {TL : Nat → List (Int64 × Nat)} {i : Nat} {c : Int64} : pstAt TL i 0 c = pstOf TL c i := by
  rw [pstAt, List.take_zero, if_pos (show pmk c [] = 0 from rfl), List.append_nil]
theorem pstAt_e {TL : Nat → List (Int64 × Nat)} {i t : Nat} {c : Int64} (h : (TL i).length ≤ t) : pstAt TL i t c = pstOf TL c (i + 1) := by
  rw [pstAt, List.take_of_length_le h, pstOf]
theorem pstAt_no {TL : Nat → List (Int64 × Nat)} {i t : Nat} {x : Int64 × Nat} (hx : (TL i)[t]? = some x) (h : pmk x.1 ((TL i).take t) ≠ 0) : pstAt TL i (t + 1) = pstAt TL i t := by
  funext c
  unfold pstAt
  rw [pmk_take hx]
  by_cases e : x.1 = c
  · subst e
    rw [if_pos rfl, if_neg h, if_neg (fun z => h (Nat.or_eq_zero_iff.mp z).1)]
  · rw [if_neg e, Nat.or_zero]
theorem pstAt_yes {TL : Nat → List (Int64 × Nat)} {i t : Nat} {x : Int64 × Nat} (hx : (TL i)[t]? = some x) (h : pmk x.1 ((TL i).take t) = 0) : pstAt TL i (t + 1) = fun d => if d = x.1 then pstAt TL i t x.1 ++ [(i, pmk x.1 (TL i))] else pstAt TL i t d := by
  funext c
  unfold pstAt
  rw [pmk_take hx]
  by_cases e : x.1 = c
  · subst e
    rw [if_pos rfl, if_pos rfl, if_pos h, List.append_nil, if_neg]
    intro z
    have := (Nat.or_eq_zero_iff.mp z).2
    exact absurd this (Nat.ne_of_gt (Nat.two_pow_pos _))
  · rw [if_neg e, Nat.or_zero, if_neg (show ¬ c = x.1 from fun z => e z.symm)]
/-- the first one of its code -/
theorem first_iff {l : List (Int64 × Nat)} {t : Nat} {x : Int64 × Nat} (hl : okT l) (hx : l[t]? = some x) : pmk x.1 l % 2 ^ x.2 = 0 ↔ pmk x.1 (l.take t) = 0 := by
  have bit : ∀ j, (pmk x.1 l % 2 ^ x.2).testBit j = true ↔ j < x.2 ∧ (x.1, j) ∈ l := by
    intro j
    rw [Nat.testBit_mod_two_pow, Bool.and_eq_true, decide_eq_true_iff, pmk_tb]
  constructor
  · intro h
    rw [pmk_0]
    intro p hp
    obtain ⟨k, hk⟩ := List.getElem?_of_mem hp
    have hkt : k < t := by have := get_lt hk; rw [List.length_take] at this; omega
    rw [List.getElem?_take_of_lt hkt] at hk
    obtain ⟨h1, h2⟩ := hl.2.2 k t _ x hkt hk hx
    have hlt : p < x.2 := by
      rcases Nat.lt_or_eq_of_le h1 with q | q
      · exact q
      · exact absurd (show (x.1, p) = x by rw [show p = x.2 from q]) h2
    have := (bit p).mpr ⟨hlt, List.mem_of_getElem? hk⟩
    rw [h, Nat.zero_testBit] at this
    exact Bool.noConfusion this
  · intro h
    apply Nat.eq_of_testBit_eq
    intro j
    rw [Nat.zero_testBit, ← Bool.not_eq_true, bit]
    rintro ⟨h1, h2⟩
    obtain ⟨k, hk⟩ := List.getElem?_of_mem h2
    have hkt : k < t := by
      rcases Nat.lt_trichotomy k t with q | q | q
      · exact q
      · subst q
        rw [hx] at hk
        have e : x.2 = j := congrArg Prod.snd (Option.some.inj hk)
        omega
      · have : x.2 ≤ j := (hl.2.2 t k x _ q hx hk).1
        omega
    exact pmk_0.mp h j (List.mem_of_getElem? (by rw [List.getElem?_take_of_lt hkt]; exact hk))
section FI
variable {S T : cS} {dp : Nat}
theorem q_isFirst {Q : Int32 → cS → Prop} {t m k : Nat} {l : List (Int64 × Nat)} {x : Int64 × Nat} (ht : tTk S t m l) (hk : l[k]? = some x) (h : Q (bI (decide (pmk x.1 l % 2 ^ x.2 = 0))) S) : k_X9_isFirst Q dp t (nI k) S := by
  have tA := ht.1
  have hp : x.2 < 20 := tTk_pl ht x (List.mem_of_getElem? hk)
  have hM : pmk x.1 l < 2 ^ 20 := pmk_lt (tTk_pl ht)
  have hle : pmk x.1 l / 2 ^ x.2 * 2 ^ x.2 ≤ pmk x.1 l := Nat.div_mul_le_self _ _
  have hdm := Nat.div_add_mod (pmk x.1 l) (2 ^ x.2)
  unfold k_X9_isFirst
  refine ⟨tA, q_codeAt ht hk ⟨tA, q_placesOf ht ⟨tA, q_placeAt ht hk ?_⟩⟩⟩
  rw [nI_shr (by omega) (by omega)]
  rintro _ rfl
  refine ⟨tA, q_placeAt ht hk ⟨tA, q_codeAt ht hk ⟨tA, q_placesOf ht ?_⟩⟩⟩
  rw [nI_shl (by omega) (by omega)]
  refine w_ne (pmk x.1 l / 2 ^ x.2 * 2 ^ x.2) (pmk x.1 l) (fun z => ?_) (fun z => ?_)
  · rw [decide_eq_false (fun y => z (by rw [y, Nat.add_zero, Nat.mul_comm] at hdm; exact hdm))] at h; exact h
  · rw [decide_eq_true (by rw [Nat.mul_comm] at hdm; omega)] at h; exact h
/-- one word's postings have changed -/
theorem wC_put {ρ : Nat → Nat} {wl m k p : Nat} {ws : List Nat} {wp : List (Int64 × List (Nat × Nat))} {x y : Int64 × List (Nat × Nat)} (hw : wC S ρ dp wl ws m wp) (hp : ws[k]? = some p) (hx : wp[k]? = some x) (v : pCv S T p) (g : pP T p y) : wC T (rtg S id ρ 81) dp wl ws m (wp.set k y) ∧ cSub S T (fun z => ρ z = 81) := by
  obtain ⟨ht, htag, hl, hnd, o, ho⟩ := hw
  obtain ⟨⟨a1, a2⟩, a3⟩ := ho k p x hp hx
  have hkl := get_lt hx
  have s : cSub S T (fun z => ρ z = 81) := sub_wk v.1 (fun z _ hz => (a3 z hz).1)
  have nl : ∀ z, lsF S dp wl z → ¬ pCF S p z := by
    intro z hz2 hz
    obtain ⟨⟨q1, q2, q3, b, b1, b2, b3⟩, g2, g3, g4, g5, g6, g7, d, d1, d2, d3, d4⟩ := a1
    have kz : cK S z = 5 ∨ cK S z = 13 ∨ cK S z = 14 := by
      rcases hz with y | y | y
      · rw [y]; exact Or.inl q1.2
      · rw [← Option.some.inj (b1.symm.trans y)]; exact Or.inr (Or.inl b2.2)
      · rw [← Option.some.inj (d1.symm.trans y)]; exact Or.inr (Or.inr d2.2)
    have kl : cK S z = 12 ∨ cK S z = 17 := by
      obtain ⟨l1, -, -, -, -, -, b', hb, hx'⟩ := ht
      rcases hz2 with y | ⟨y, y2⟩
      · rw [y]; exact Or.inl l1.2
      · obtain rfl : b' = z := Option.some.inj (hb.symm.trans y)
        rcases hx' with hx' | hx'
        · exact absurd hx'.1 y2
        · exact Or.inr hx'.2.2.1.2
    omega
  have ht' := lsT_sub v.1 ht nl
  refine ⟨⟨ht', fun z hz => ?_, by rw [List.length_set]; exact hl, hnd, fun z => if z ∈ cL S then o z else p, fun j q u hq hu => ?_⟩, s⟩
  · have hz' : lsF S dp wl z := by
      unfold lsF at hz ⊢
      rw [sub_cr v.1 ht.1 (nl wl (Or.inl rfl))] at hz; exact hz
    exact (rtg_o (lsF_in ht hz')).trans (htag z hz')
  · rcases (set_get hkl).mp hu with ⟨b1, b2⟩ | ⟨b1, b2⟩
    · subst b1
      obtain rfl : p = q := Option.some.inj (hp.symm.trans hq)
      rw [b2]
      refine ⟨g, fun z hz => ?_⟩
      rcases v.2 z hz with w | w
      · have hin := pCF_in a1 w
        exact ⟨(rtg_o hin).trans (a3 z w).1, (if_pos hin).trans (a3 z w).2⟩
      · exact ⟨rtg_n w, if_neg w⟩
    · obtain ⟨⟨c1, c2⟩, c3⟩ := ho j q u hq b2
      have hne : q ≠ p := fun e => b1 (hnd j k p (e ▸ hq) hp)
      have nF : ∀ z, pCF S q z → ¬ pCF S p z := fun z h1 h2 => hne ((c3 z h1).2.symm.trans (a3 z h2).2)
      refine ⟨⟨pC_sub v.1 c1 nF, c2⟩, fun z hz => ?_⟩
      have hz' : pCF S q z := by
        have np := nF q (Or.inl rfl)
        unfold pCF at hz ⊢
        rw [sub_cr v.1 c1.1.1 np, sub_cr v.1 c1.1.1 np] at hz
        exact hz
      have hin := pCF_in c1 hz'
      exact ⟨(rtg_o hin).trans (c3 z hz').1, (if_pos hin).trans (c3 z hz').2⟩
end FI
