/-! sorted words with their postings -/
theorem insA_get {α : Type} {l : List α} {k j : Nat} {y z : α} (hk : k ≤ l.length) : (l.take k ++ y :: l.drop k)[j]? = some z ↔ (j < k ∧ l[j]? = some z) ∨ (j = k ∧ z = y) ∨ (k < j ∧ l[j - 1]? = some z) := by
  have hl : (l.take k).length = k := by rw [List.length_take]; omega
  rcases Nat.lt_trichotomy j k with q | q | q
  · rw [List.getElem?_append_left (by omega), List.getElem?_take_of_lt q]
    constructor
    · intro h; exact Or.inl ⟨q, h⟩
    · rintro (h | h | h)
      · exact h.2
      · omega
      · omega
  · subst q
    rw [List.getElem?_append_right (by omega), hl, Nat.sub_self, List.getElem?_cons_zero]
    constructor
    · intro h; exact Or.inr (Or.inl ⟨rfl, (Option.some.inj h).symm⟩)
    · rintro (h | h | h)
      · omega
      · rw [h.2]
      · omega
  · obtain ⟨i, hi⟩ : ∃ i, j - k = i + 1 := ⟨j - k - 1, by omega⟩
    rw [List.getElem?_append_right (by omega), hl, hi, List.getElem?_cons_succ, List.getElem?_drop, show k + i = j - 1 by omega]
    constructor
    · intro h; exact Or.inr (Or.inr ⟨q, h⟩)
    · rintro (h | h | h)
      · omega
      · omega
      · exact h.2
theorem insA_len {α : Type} {l : List α} {k : Nat} {y : α} (hk : k ≤ l.length) : (l.take k ++ y :: l.drop k).length = l.length + 1 := by
  rw [List.length_append, List.length_cons, List.length_take, List.length_drop]; omega
theorem set_get {α : Type} {l : List α} {k j : Nat} {y z : α} (hk : k < l.length) : (l.set k y)[j]? = some z ↔ (j = k ∧ z = y) ∨ (j ≠ k ∧ l[j]? = some z) := by
  by_cases c : j = k
  · subst c
    rw [List.getElem?_set_self hk]
    constructor
    · intro h; exact Or.inl ⟨rfl, (Option.some.inj h).symm⟩
    · rintro (h | h)
      · rw [h.2]
      · exact absurd rfl h.1
  · rw [List.getElem?_set_ne (Ne.symm c)]
    constructor
    · intro h; exact Or.inr ⟨c, h⟩
    · rintro (h | h)
      · exact absurd h.1 c
      · exact h.2
/-- a sum over a list -/
def sumL {α : Type} (f : α → Nat) : List α → Nat
  | [] => 0
  | x :: l => f x + sumL f l
theorem sumL_app {α : Type} (f : α → Nat) (l m : List α) : sumL f (l ++ m) = sumL f l + sumL f m := by
  induction l with
  | nil => rw [List.nil_append, sumL, Nat.zero_add]
  | cons x l ih => rw [List.cons_append, sumL, sumL, ih, Nat.add_assoc]
theorem sumL_ins {α : Type} (f : α → Nat) (l : List α) (k : Nat) (y : α) : sumL f (l.take k ++ y :: l.drop k) = sumL f l + f y := by
  have := sumL_app f (l.take k) (l.drop k)
  rw [List.take_append_drop] at this
  rw [sumL_app, sumL, this]; omega
theorem sumL_set {α : Type} (f : α → Nat) : ∀ (l : List α) (k : Nat) (x y : α), l[k]? = some x → sumL f (l.set k y) + f x = sumL f l + f y
  | [], k, x, y, h => by rw [List.getElem?_nil] at h; exact absurd h (by simp)
  | a :: l, 0, x, y, h => by
    rw [List.getElem?_cons_zero] at h
    obtain rfl := Option.some.inj h
    rw [List.set_cons_zero, sumL, sumL]; omega
  | a :: l, k + 1, x, y, h => by
    rw [List.getElem?_cons_succ] at h
    have := sumL_set f l k x y h
    rw [List.set_cons_succ, sumL, sumL]; omega
theorem sumL_le {α : Type} {f g : α → Nat} : ∀ {l : List α}, (∀ x, x ∈ l → f x ≤ g x) → sumL f l ≤ sumL g l
  | [], _ => Nat.le_refl _
  | a :: l, h => by
    have h1 := h a (List.mem_cons_self ..)
    have h2 := sumL_le (l := l) (fun x hx => h x (List.mem_cons_of_mem _ hx))
    rw [sumL, sumL]; omega
theorem sumL_mul {α : Type} {f g : α → Nat} {a c d : Nat} : ∀ {l : List α}, (∀ x, x ∈ l → a * f x ≤ c * g x + d) → a * sumL f l ≤ c * sumL g l + d * l.length
  | [], _ => by rw [sumL, sumL]; omega
  | y :: l, h => by
    have h1 := h y (List.mem_cons_self ..)
    have h2 := sumL_mul (l := l) (fun x hx => h x (List.mem_cons_of_mem _ hx))
    rw [sumL, sumL, List.length_cons, Nat.mul_add, Nat.mul_add, Nat.mul_succ]; omega
/-- words that rise -/
def srtW (wp : List (Int64 × List (Nat × Nat))) : Prop := ∀ (a b : Nat) (x y : Int64 × List (Nat × Nat)), a < b → wp[a]? = some x → wp[b]? = some y → x.1.toInt < y.1.toInt
/-- just those words that have postings, with these -/
def wOk (wp : List (Int64 × List (Nat × Nat))) (PQ : Int64 → List (Nat × Nat)) : Prop := srtW wp ∧ (∀ (j : Nat) (x : Int64 × List (Nat × Nat)), wp[j]? = some x → x.2 = PQ x.1 ∧ PQ x.1 ≠ []) ∧ ∀ c, PQ c ≠ [] → ∃ (j : Nat) (x : Int64 × List (Nat × Nat)), wp[j]? = some x ∧ x.1 = c
/-- k words come ahead of c -/
def plW (wp : List (Int64 × List (Nat × Nat))) (c : Int64) (k : Nat) : Prop := k ≤ wp.length ∧ (∀ (j : Nat) (x : Int64 × List (Nat × Nat)), j < k → wp[j]? = some x → x.1.toInt < c.toInt) ∧ ∀ (j : Nat) (x : Int64 × List (Nat × Nat)), k ≤ j → wp[j]? = some x → c.toInt ≤ x.1.toInt
theorem i64_eq {x y : Int64} (h : x.toInt = y.toInt) : x = y := Int64.toInt_inj.mp h
section WO
variable {wp : List (Int64 × List (Nat × Nat))} {PQ : Int64 → List (Nat × Nat)} {c : Int64} {k : Nat} {y : Nat × Nat}
/-- the word is there -/
theorem wOk_upd (h : wOk wp PQ) (hk : wp[k]? = some (c, PQ c)) : wOk (wp.set k (c, PQ c ++ [y])) (fun d => if d = c then PQ c ++ [y] else PQ d) := by
  obtain ⟨h1, h2, h3⟩ := h
  have hl := get_lt hk
  have uniq : ∀ (j : Nat) (x : Int64 × List (Nat × Nat)), wp[j]? = some x → x.1 = c → j = k := by
    intro j x hj e
    rcases Nat.lt_trichotomy j k with q | q | q
    · have : x.1.toInt < c.toInt := h1 j k x _ q hj hk
      rw [e] at this; omega
    · exact q
    · have : c.toInt < x.1.toInt := h1 k j _ x q hk hj
      rw [e] at this; omega
  refine ⟨fun a b u v hab ha hb => ?_, fun j x hj => ?_, fun d hd => ?_⟩
  · rcases (set_get hl).mp ha with ⟨a1, a2⟩ | ⟨a1, a2⟩
    · rcases (set_get hl).mp hb with ⟨b1, b2⟩ | ⟨b1, b2⟩
      · omega
      · rw [a2]
        show c.toInt < v.1.toInt
        exact h1 k b (c, PQ c) v (by omega) hk b2
    · rcases (set_get hl).mp hb with ⟨b1, b2⟩ | ⟨b1, b2⟩
      · rw [b2]
        show u.1.toInt < c.toInt
        exact h1 a k u (c, PQ c) (by omega) a2 hk
      · exact h1 a b u v hab a2 b2
  · rcases (set_get hl).mp hj with ⟨a1, a2⟩ | ⟨a1, a2⟩
    · rw [a2]
      simp
    · have hne : x.1 ≠ c := fun e => a1 (uniq j x a2 e)
      simp only [hne, if_false]
      exact h2 j x a2
  · by_cases e : d = c
    · exact ⟨k, _, (set_get hl).mpr (Or.inl ⟨rfl, rfl⟩), e.symm⟩
    · simp only [e, if_false] at hd
      obtain ⟨j, x, hj, hx⟩ := h3 d hd
      refine ⟨j, x, (set_get hl).mpr (Or.inr ⟨fun z => ?_, hj⟩), hx⟩
      subst z
      rw [hk] at hj
      exact e (hx ▸ (congrArg Prod.fst (Option.some.inj hj)).symm)
/-- the word is new -/
theorem wOk_new (h : wOk wp PQ) (hp : plW wp c k) (hn : ∀ x, wp[k]? = some x → x.1 ≠ c) : PQ c = [] ∧ wOk (wp.take k ++ (c, [y]) :: wp.drop k) (fun d => if d = c then PQ c ++ [y] else PQ d) := by
  obtain ⟨h1, h2, h3⟩ := h
  obtain ⟨p1, p2, p3⟩ := hp
  have none : ∀ (j : Nat) (x : Int64 × List (Nat × Nat)), wp[j]? = some x → x.1 ≠ c := by
    intro j x hj e
    rcases Nat.lt_trichotomy j k with q | q | q
    · have := p2 j x q hj
      rw [e] at this; omega
    · subst q; exact hn x hj e
    · have hkl : k < wp.length := by have := get_lt hj; omega
      obtain ⟨w, hw⟩ := get_ex hkl
      have a1 := p3 k w (Nat.le_refl _) hw
      have a2 := h1 k j w x q hw hj
      rw [e] at a2; omega
  have e0 : PQ c = [] := by
    by_cases z : PQ c = []
    · exact z
    · obtain ⟨j, x, hj, hx⟩ := h3 c z
      exact absurd hx (none j x hj)
  have lo : ∀ (j : Nat) (x : Int64 × List (Nat × Nat)), j < k → wp[j]? = some x → x.1.toInt < c.toInt := p2
  have hi : ∀ (j : Nat) (x : Int64 × List (Nat × Nat)), k ≤ j → wp[j]? = some x → c.toInt < x.1.toInt := by
    intro j x hj hx
    have a1 := p3 j x hj hx
    rcases Int.lt_or_eq_of_le a1 with q | q
    · exact q
    · exact absurd (i64_eq q.symm) (none j x hx)
  refine ⟨e0, fun a b u v hab ha hb => ?_, fun j x hj => ?_, fun d hd => ?_⟩
  · rcases (insA_get p1).mp ha with ⟨a1, a2⟩ | ⟨a1, a2⟩ | ⟨a1, a2⟩
    · rcases (insA_get p1).mp hb with ⟨b1, b2⟩ | ⟨b1, b2⟩ | ⟨b1, b2⟩
      · exact h1 a b u v hab a2 b2
      · rw [b2]; exact lo a u a1 a2
      · exact h1 a (b - 1) u v (by omega) a2 b2
    · rcases (insA_get p1).mp hb with ⟨b1, b2⟩ | ⟨b1, b2⟩ | ⟨b1, b2⟩
      · omega
      · omega
      · rw [a2]; exact hi (b - 1) v (by omega) b2
    · rcases (insA_get p1).mp hb with ⟨b1, b2⟩ | ⟨b1, b2⟩ | ⟨b1, b2⟩
      · omega
      · omega
      · exact h1 (a - 1) (b - 1) u v (by omega) a2 b2
  · have keep : ∀ i, wp[i]? = some x → x.2 = (if x.1 = c then PQ c ++ [y] else PQ x.1) ∧ (if x.1 = c then PQ c ++ [y] else PQ x.1) ≠ [] := fun i hx => by
      rw [if_neg (none i x hx)]; exact h2 i x hx
    rcases (insA_get p1).mp hj with ⟨a1, a2⟩ | ⟨a1, a2⟩ | ⟨a1, a2⟩
    · exact keep j a2
    · rw [a2]
      simp [e0]
    · exact keep _ a2
  · by_cases e : d = c
    · exact ⟨k, _, (insA_get p1).mpr (Or.inr (Or.inl ⟨rfl, rfl⟩)), e.symm⟩
    · simp only [e, if_false] at hd
      obtain ⟨j, x, hj, hx⟩ := h3 d hd
      rcases Nat.lt_or_ge j k with q | q
      · exact ⟨j, x, (insA_get p1).mpr (Or.inl ⟨q, hj⟩), hx⟩
      · exact ⟨j + 1, x, (insA_get p1).mpr (Or.inr (Or.inr ⟨by omega, hj⟩)), hx⟩
end WO
/-- the last document, one more -/
def lpP : Nat → List (Nat × Nat) → Nat
  | a, [] => a
  | _, x :: r => lpP (x.1 + 1) r
theorem nmN_snoc {i m : Nat} : ∀ (l : List (Nat × Nat)) (a : Nat), nmN a (l ++ [(i, m)]) = nmN a l ++ docN i (lpP a l) m
  | [], a => by
    show docN i a m ++ [] = [] ++ docN i a m
    rw [List.append_nil, List.nil_append]
  | y :: l, a => by
    show docN y.1 a y.2 ++ nmN (y.1 + 1) (l ++ [(i, m)]) = docN y.1 a y.2 ++ nmN (y.1 + 1) l ++ docN i (lpP (y.1 + 1) l) m
    rw [nmN_snoc l, List.append_assoc]
theorem lpP_snoc {i m : Nat} : ∀ (l : List (Nat × Nat)) (a : Nat), lpP a (l ++ [(i, m)]) = i + 1
  | [], _ => rfl
  | y :: l, _ => lpP_snoc l (y.1 + 1)
theorem okP_snoc {i m : Nat} (hi : i < 100) (hm : m < 2 ^ 20) (h0 : m ≠ 0) : ∀ {l : List (Nat × Nat)} {a : Nat}, okP a l → lpP a l ≤ i → okP a (l ++ [(i, m)])
  | [], a, _, hl => ⟨⟨hl, hi, hm, h0⟩, trivial⟩
  | y :: l, a, h, hl => ⟨h.1, okP_snoc hi hm h0 h.2 hl⟩

