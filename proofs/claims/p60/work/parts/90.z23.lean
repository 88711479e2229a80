/-! choices of places, in order -/
def cmbL {α : Type} : Nat → List α → List (List α)
  | 0, _ => [[]]
  | _ + 1, [] => []
  | d + 1, a :: l => (cmbL d l).map (fun x => a :: x) ++ cmbL (d + 1) l
theorem cmbL_map {α β : Type} {F : α → β} : ∀ (d : Nat) (l : List α), cmbL d (l.map F) = (cmbL d l).map (fun x => x.map F)
  | 0, _ => by cases ‹List α› <;> rfl
  | d + 1, [] => rfl
  | d + 1, a :: l => by
    show (cmbL d (l.map F)).map _ ++ cmbL (d + 1) (l.map F) = _
    rw [cmbL_map d l, cmbL_map (d + 1) l, cmbL, List.map_append, List.map_map, List.map_map]
    rfl
theorem cmbL_few {α : Type} : ∀ (d : Nat) (l : List α), l.length < d → cmbL d l = []
  | 0, _, h => absurd h (Nat.not_lt_zero _)
  | d + 1, [], _ => rfl
  | d + 1, a :: l, h => by
    have h' : l.length + 1 < d + 1 := h
    rw [cmbL, cmbL_few d l (by omega), cmbL_few (d + 1) l (by omega)]; rfl
theorem cmbL_sub {α : Type} {l L : List α} (h : l.Sublist L) : l ∈ cmbL l.length L := by
  induction h with
  | slnil => exact List.mem_singleton.mpr rfl
  | @cons l1 l2 a h ih =>
    cases l1 with
    | nil => exact List.mem_singleton.mpr rfl
    | cons b l1 =>
      show _ ∈ (cmbL l1.length l2).map _ ++ cmbL (l1.length + 1) l2
      exact List.mem_append.mpr (Or.inr ih)
  | @cons_cons l1 l2 a h ih =>
    show _ ∈ (cmbL l1.length l2).map _ ++ cmbL (l1.length + 1) l2
    exact List.mem_append.mpr (Or.inl (List.mem_map.mpr ⟨l1, ih, rfl⟩))
/-- the choice of indices that comes next -/
def nxC (n : Nat) : List Nat → Option (List Nat)
  | [] => none
  | i :: t => match nxC n t with
    | some t' => some (i :: t')
    | none => if i + 1 + (t.length + 1) ≤ n then some (List.range' (i + 1) (t.length + 1)) else none
/-- each is followed by the next one, the last one by e -/
def chT (n : Nat) : List (List Nat) → Option (List Nat) → Prop
  | [], _ => True
  | x :: l, e => nxC n x = (match l with
    | [] => e
    | y :: _ => some y) ∧ chT n l e
theorem chT_app {n : Nat} {e : Option (List Nat)} {l2 : List (List Nat)} : ∀ {l1 : List (List Nat)}, chT n l1 (match l2 with
    | [] => e
    | y :: _ => some y) → chT n l2 e → chT n (l1 ++ l2) e
  | [], _, h2 => h2
  | [x], h1, h2 => by
    refine ⟨?_, h2⟩
    have := h1.1
    cases l2 <;> exact this
  | x :: y :: l, h1, h2 => ⟨h1.1, chT_app h1.2 h2⟩
theorem cmbL_len {α : Type} : ∀ {d : Nat} {l : List α} {x : List α}, x ∈ cmbL d l → x.length = d
  | 0, l, x, h => by
    have : x ∈ [[]] := by cases l <;> exact h
    rw [List.mem_singleton.mp this]; rfl
  | d + 1, [], x, h => absurd h List.not_mem_nil
  | d + 1, a :: l, x, h => by
    rcases List.mem_append.mp h with h | h
    · obtain ⟨y, hy, rfl⟩ := List.mem_map.mp h
      rw [List.length_cons, cmbL_len hy]
    · exact cmbL_len h
theorem chT_map {n a d : Nat} {e' : Option (List Nat)} (he : e' = if a + 1 + (d + 1) ≤ n then some (List.range' (a + 1) (d + 1)) else none) : ∀ {l : List (List Nat)}, (∀ x, x ∈ l → x.length = d) → chT n l none → chT n (l.map (fun x => a :: x)) e'
  | [], _, _ => trivial
  | [x], hl, h => by
    refine ⟨?_, trivial⟩
    have h1 : nxC n x = none := h.1
    show nxC n (a :: x) = e'
    rw [nxC, h1, hl x List.mem_cons_self, he]
  | x :: y :: l, hl, h => by
    have h1 : nxC n x = some y := h.1
    refine ⟨?_, chT_map he (fun z hz => hl z (List.mem_cons_of_mem _ hz)) h.2⟩
    show nxC n (a :: x) = some (a :: y)
    rw [nxC, h1]
theorem cmbR_head {d : Nat} : ∀ {k a : Nat}, d ≤ k → ∃ l, cmbL d (List.range' a k) = List.range' a d :: l := by
  induction d with
  | zero => intro k a _; exact ⟨[], by cases k <;> rfl⟩
  | succ d ih =>
    intro k a h
    obtain ⟨k', rfl⟩ : ∃ k', k = k' + 1 := ⟨k - 1, by omega⟩
    obtain ⟨l, hl⟩ := ih (k := k') (a := a + 1) (by omega)
    refine ⟨l.map (fun x => a :: x) ++ cmbL (d + 1) (List.range' (a + 1) k'), ?_⟩
    rw [List.range'_succ, cmbL, hl]; rfl
theorem cmbR_ch {n : Nat} : ∀ {k d a : Nat}, a + k = n → chT n (cmbL d (List.range' a k)) none
  | k, 0, a, _ => by
    have : cmbL 0 (List.range' a k) = [[]] := by cases k <;> rfl
    rw [this]; exact ⟨rfl, trivial⟩
  | 0, d + 1, a, _ => trivial
  | k + 1, d + 1, a, h => by
    rw [List.range'_succ, cmbL]
    have h1 := cmbR_ch (n := n) (k := k) (d := d) (a := a + 1) (by omega)
    have h2 := cmbR_ch (n := n) (k := k) (d := d + 1) (a := a + 1) (by omega)
    refine chT_app (chT_map (d := d) ?_ (fun x hx => cmbL_len hx) h1) h2
    by_cases c : d + 1 ≤ k
    · obtain ⟨l, hl⟩ := cmbR_head (d := d + 1) (k := k) (a := a + 1) c
      rw [hl, if_pos (by omega)]
    · rw [cmbL_few (d + 1) _ (by rw [List.length_range']; omega), if_neg (by omega)]
/-- the choices' indices are below -/
theorem cmbR_lt : ∀ {k d a : Nat} {x : List Nat}, x ∈ cmbL d (List.range' a k) → ∀ j i, x[j]? = some i → i + d ≤ a + k + j ∧ a ≤ i
  | k, 0, a, x, h, j, i, hi => by
    have := cmbL_len h
    have := get_lt hi
    omega
  | 0, d + 1, a, x, h, j, i, hi => absurd h List.not_mem_nil
  | k + 1, d + 1, a, x, h, j, i, hi => by
    rw [List.range'_succ] at h
    have hkd : d ≤ k := by
      rcases Nat.lt_or_ge k d with z | z
      · rw [← List.range'_succ, cmbL_few (d + 1) _ (by rw [List.length_range']; omega)] at h
        exact absurd h List.not_mem_nil
      · exact z
    rcases List.mem_append.mp h with h | h
    · obtain ⟨y, hy, rfl⟩ := List.mem_map.mp h
      cases j with
      | zero =>
        have : a = i := Option.some.inj hi
        omega
      | succ j =>
        have := cmbR_lt hy j i hi
        omega
    · have := cmbR_lt h j i hi
      omega
/-- the bits from a on -/
def plc (mk : Nat) : Nat → Nat → List Nat
  | 0, _ => []
  | k + 1, a => (if mk.testBit a = true then [a] else []) ++ plc mk k (a + 1)
theorem plc_mem {mk p : Nat} : ∀ {k a : Nat}, p ∈ plc mk k a ↔ a ≤ p ∧ p < a + k ∧ mk.testBit p = true
  | 0, a => ⟨fun h => absurd h List.not_mem_nil, fun h => by omega⟩
  | k + 1, a => by
    rw [plc, List.mem_append, plc_mem]
    constructor
    · rintro (h | ⟨h1, h2, h3⟩)
      · by_cases c : mk.testBit a = true
        · rw [if_pos c] at h
          rw [List.mem_singleton.mp h]
          exact ⟨Nat.le_refl _, by omega, c⟩
        · rw [if_neg c] at h; exact absurd h List.not_mem_nil
      · exact ⟨by omega, by omega, h3⟩
    · rintro ⟨h1, h2, h3⟩
      by_cases c : p = a
      · subst c; rw [if_pos h3]; exact Or.inl (List.mem_singleton.mpr rfl)
      · exact Or.inr ⟨by omega, by omega, h3⟩
theorem plc_add {mk : Nat} : ∀ {j k a : Nat}, plc mk (j + k) a = plc mk j a ++ plc mk k (a + j)
  | 0, k, a => by rw [Nat.zero_add]; rfl
  | j + 1, k, a => by rw [show j + 1 + k = j + k + 1 by omega, plc, plc, plc_add (j := j), List.append_assoc, show a + 1 + j = a + (j + 1) by omega]
theorem plc_len {mk : Nat} : ∀ k a : Nat, (plc mk k a).length ≤ k
  | 0, _ => Nat.le_refl _
  | k + 1, a => by
    have := plc_len (mk := mk) k (a + 1)
    rw [plc, List.length_append]
    split
    · show 1 + _ ≤ _; omega
    · show 0 + _ ≤ _; omega
theorem frm_app {pre : List Nat} {a : Nat} : frm (pre ++ [a]) = a + 1 := by
  unfold frm
  rw [List.length_append]
  show (if pre.length + 1 = 0 then 0 else _) = _
  rw [if_neg (by omega), show pre.length + [a].length - 1 = pre.length from by show pre.length + 1 - 1 = _; omega, List.getD_eq_getElem?_getD, List.getElem?_append_right (Nat.le_refl _), Nat.sub_self]
  rfl
theorem find_map {α β : Type} {F : α → β} {P : β → Bool} : ∀ l : List α, (l.map F).find? P = (l.find? (fun a => P (F a))).map F
  | [] => rfl
  | a :: l => by
    rw [List.map_cons, List.find?_cons, List.find?_cons]
    cases P (F a) with
    | true => rfl
    | false => exact find_map l
theorem fpN_find {sp : Nat → Option Nat} {mk : Nat} : ∀ (d : Nat) (pre : List Nat), frm pre ≤ 20 → fpN sp mk d pre = ((cmbL d (plc mk (20 - frm pre) (frm pre))).map (fun x => pre ++ x)).find? (fun l => cvB sp (orP l))
  | 0, pre, _ => by
    have : cmbL 0 (plc mk (20 - frm pre) (frm pre)) = [[]] := by cases plc mk (20 - frm pre) (frm pre) <;> rfl
    rw [this, fpN, List.map_cons, List.map_nil, List.append_nil, List.find?_cons, List.find?_nil]
    cases cvB sp (orP pre) <;> rfl
  | d + 1, pre, h => by
    rw [fpN]
    have key : ∀ k a, a + k = 20 → fpL (fun p => fpN sp mk d (pre ++ [p])) mk k a = ((cmbL (d + 1) (plc mk k a)).map (fun x => pre ++ x)).find? (fun l => cvB sp (orP l)) := by
      intro k
      induction k with
      | zero => intro a _; rfl
      | succ k ih =>
        intro a ha
        rw [fpL, plc]
        by_cases c : mk.testBit a = true
        · rw [if_pos c, if_pos c, fpN_find d (pre ++ [a]) (by rw [frm_app]; omega), frm_app, ih (a + 1) (by omega), show 20 - (a + 1) = k by omega]
          show _ = ((cmbL (d + 1) (a :: plc mk k (a + 1))).map _).find? _
          rw [cmbL, List.map_append, List.find?_append, List.map_map]
          have e : (fun x => pre ++ x) ∘ (fun x => a :: x) = fun x => pre ++ [a] ++ x := by
            funext x
            show pre ++ (a :: x) = _
            rw [List.append_assoc]; rfl
          rw [e]
          cases ((cmbL d (plc mk k (a + 1))).map (fun x => pre ++ [a] ++ x)).find? (fun l => cvB sp (orP l)) <;> rfl
        · rw [if_neg c, if_neg c, ih (a + 1) (by omega)]; rfl
    exact key _ _ (by omega)
theorem fpN_0 {sp : Nat → Option Nat} {mk c : Nat} : fpN sp mk c [] = (cmbL c (plc mk 20 0)).find? (fun l => cvB sp (orP l)) := by
  rw [fpN_find c [] (by decide)]
  have e : (fun x : List Nat => [] ++ x) = fun x => x := by funext x; rfl
  rw [e]
  show (List.map _ (cmbL c (plc mk 20 0))).find? _ = _
  rw [List.map_id']
/-- the marks of leaves that have some -/
def mlL (sp : Nat → Option Nat) : Nat → List Nat
  | 0 => []
  | k + 1 => mlL sp k ++ (sp k).toList
theorem mlL_mem {sp : Nat → Option Nat} {m : Nat} : ∀ {k : Nat}, m ∈ mlL sp k ↔ ∃ i, i < k ∧ sp i = some m
  | 0 => ⟨fun h => absurd h List.not_mem_nil, fun ⟨i, hi, _⟩ => absurd hi (Nat.not_lt_zero i)⟩
  | k + 1 => by
    rw [mlL, List.mem_append, mlL_mem, Option.mem_toList]
    constructor
    · rintro (⟨i, hi, h⟩ | h)
      · exact ⟨i, by omega, h⟩
      · exact ⟨k, Nat.lt_succ_self k, h⟩
    · rintro ⟨i, hi, h⟩
      by_cases c : i = k
      · subst c; exact Or.inr h
      · exact Or.inl ⟨i, by omega, h⟩
theorem cvB_ml {sp : Nat → Option Nat} {P k : Nat} (hk : k ≤ 24) (ho : ∀ i, k ≤ i → sp i = none) (hP : P ≠ 0) : cvB sp P = true ↔ ∀ m, m ∈ mlL sp k → m &&& P ≠ 0 := by
  unfold cvB
  have hn : ∀ N, allB (cvI sp P) N = true ↔ ∀ i, i < N → cvI sp P i = true := by
    intro N
    induction N with
    | zero => exact ⟨fun _ i hi => absurd hi (Nat.not_lt_zero i), fun _ => rfl⟩
    | succ N ih =>
      rw [allB, Bool.and_eq_true, ih]
      constructor
      · rintro ⟨a, b⟩ i hi
        by_cases c : i = N
        · subst c; exact b
        · exact a i (by omega)
      · intro a
        exact ⟨fun i hi => a i (by omega), a N (Nat.lt_succ_self N)⟩
  rw [hn]
  constructor
  · intro h m hm
    obtain ⟨i, hi, e⟩ := mlL_mem.mp hm
    have := h i (by omega)
    unfold cvI at this
    rw [e] at this
    simpa using this
  · intro h i hi
    unfold cvI
    cases e : sp i with
    | none => simpa using hP
    | some m =>
      have : i < k := by
        rcases Nat.lt_or_ge i k with z | z
        · exact z
        · rw [ho i z] at e; exact absurd e (by simp)
      have := h m (mlL_mem.mpr ⟨i, this, e⟩)
      simpa using this
theorem mkF_ml {sp : Nat → Option Nat} {p : Nat} : ∀ {k : Nat}, (mkF sp k).testBit p = true ↔ ∃ m, m ∈ mlL sp k ∧ m.testBit p = true
  | 0 => by rw [mkF, Nat.zero_testBit]; exact ⟨fun h => absurd h (by decide), fun ⟨m, h, _⟩ => absurd h List.not_mem_nil⟩
  | k + 1 => by
    rw [mkF, Nat.testBit_or, Bool.or_eq_true, mkF_ml, mlL]
    constructor
    · rintro (⟨m, h1, h2⟩ | h)
      · exact ⟨m, List.mem_append.mpr (Or.inl h1), h2⟩
      · cases e : sp k with
        | none => rw [e] at h; exact absurd h (by simp)
        | some m =>
          rw [e] at h
          exact ⟨m, List.mem_append.mpr (Or.inr (List.mem_singleton.mpr rfl)), h⟩
    · rintro ⟨m, h1, h2⟩
      rcases List.mem_append.mp h1 with h1 | h1
      · exact Or.inl ⟨m, h1, h2⟩
      · rw [Option.mem_toList] at h1
        rw [h1]; exact Or.inr h2
theorem orP_tb {p : Nat} : ∀ {l : List Nat}, (orP l).testBit p = true ↔ ∃ b, b ∈ l ∧ b ≤ p ∧ p < b + 6
  | [] => by rw [orP, Nat.zero_testBit]; exact ⟨fun h => absurd h (by decide), fun ⟨m, h, _⟩ => absurd h List.not_mem_nil⟩
  | b :: l => by
    have e : (63 * 2 ^ b).testBit p = true ↔ b ≤ p ∧ p < b + 6 := by
      rw [show 63 * 2 ^ b = (2 ^ 6 - 1) * 2 ^ b from rfl, Nat.testBit_mul_two_pow, Bool.and_eq_true, Nat.testBit_two_pow_sub_one, decide_eq_true_iff, decide_eq_true_iff]
      omega
    rw [orP, Nat.testBit_or, Bool.or_eq_true, e, orP_tb]
    constructor
    · rintro (h | ⟨b', h1, h2⟩)
      · exact ⟨b, List.mem_cons_self, h⟩
      · exact ⟨b', List.mem_cons_of_mem _ h1, h2⟩
    · rintro ⟨b', h1, h2⟩
      rcases List.mem_cons.mp h1 with rfl | h1
      · exact Or.inl h2
      · exact Or.inr ⟨b', h1, h2⟩
theorem orP_ne {l : List Nat} (h : l ≠ []) : orP l ≠ 0 := by
  cases l with
  | nil => exact absurd rfl h
  | cons b l =>
    intro e
    have : (orP (b :: l)).testBit b = true := orP_tb.mpr ⟨b, List.mem_cons_self, Nat.le_refl _, by omega⟩
    rw [e, Nat.zero_testBit] at this
    exact absurd this (by decide)

