/-! the reference: beginnings, patterns, edits -/
theorem w_N1 {b : Bool} {A B : Prop} (f : b = false → A) (g : b = true → B) : (¬ bI b = nI 1 → A) ∧ (bI b = nI 1 → B) := by
  cases b with
  | false => exact ⟨fun _ => f rfl, fun c => absurd c (by decide)⟩
  | true => exact ⟨fun c => absurd rfl c, fun _ => g rfl⟩
theorem w_P1 {b : Bool} {A B : Prop} (f : b = true → A) (g : b = false → B) : (bI b = nI 1 → A) ∧ (¬ bI b = nI 1 → B) := by
  cases b with
  | false => exact ⟨fun c => absurd c (by decide), fun _ => g rfl⟩
  | true => exact ⟨fun _ => f rfl, fun c => absurd rfl c⟩
/-- a word begins with another one -/
noncomputable def bgB (w u : Nat) : Bool := allB (fun k => dg w k == dg u k) (lnW u)
theorem mt_ns {pt w : Nat → Nat} {L : Nat} (hn : ∀ k, k < L → pt k ≠ 38 ∧ pt k ≠ 37) : ∀ k, k ≤ L → ∀ j, mtR pt w k j = (decide (j = k) && allB (fun i => w i == pt i) k) := by
  intro k
  induction k with
  | zero => intro _ j; rw [mtR]; simp [allB]
  | succ k ih =>
    intro hk j
    obtain ⟨h1, h2⟩ := hn k (by omega)
    cases j with
    | zero => rw [mt_0, decide_eq_false h1, decide_eq_false (show ¬ 0 = k + 1 by omega)]; rfl
    | succ j =>
      rw [mt_sn h1, ih (by omega), decide_eq_false h2, Bool.false_or, allB_s]
      by_cases c : j = k
      · subst c
        rw [decide_eq_true rfl, decide_eq_true rfl, Bool.true_and, Bool.true_and]
        congr 1
        by_cases e : pt j = w j
        · rw [decide_eq_true e, e]; simp
        · rw [decide_eq_false e]
          have : (w j == pt j) = false := by simpa using fun q => e q.symm
          rw [this]
      · rw [decide_eq_false c, decide_eq_false (show ¬ j + 1 = k + 1 by omega)]; rfl
theorem mt_pre {pt w : Nat → Nat} {L : Nat} (hn : ∀ k, k < L → pt k ≠ 38 ∧ pt k ≠ 37) (h38 : pt L = 38) : ∀ j, mtR pt w (L + 1) j = (decide (L ≤ j) && allB (fun i => w i == pt i) L) := by
  intro j
  induction j with
  | zero =>
    rw [mt_0, decide_eq_true h38, Bool.true_and, mt_ns hn L (Nat.le_refl L)]
    congr 1
    by_cases c : L = 0
    · subst c; rfl
    · rw [decide_eq_false (fun e => c e.symm), decide_eq_false (by omega)]
  | succ j ih =>
    rw [mt_s38 h38, ih, mt_ns hn L (Nat.le_refl L)]
    by_cases c : j + 1 = L
    · rw [decide_eq_true c, decide_eq_false (show ¬ L ≤ j by omega), decide_eq_true (show L ≤ j + 1 by omega), Bool.false_and, Bool.or_false]
    · rw [decide_eq_false c, Bool.false_and, Bool.false_or]
      by_cases c2 : L ≤ j
      · rw [decide_eq_true c2, decide_eq_true (show L ≤ j + 1 by omega)]
      · rw [decide_eq_false c2, decide_eq_false (show ¬ L ≤ j + 1 by omega)]
theorem ptA_pre {d : Nd} (hk : nK d = 3) : (ptN d).length = lnW (nW d) + 1 ∧ (∀ k, k < lnW (nW d) → ptA d k = dg (nW d) k) ∧ ptA d (lnW (nW d)) = 38 := by
  have e : ptN d = (List.range (lnW (nW d))).map (dg (nW d)) ++ [38] := by unfold ptN; rw [if_pos hk]
  refine ⟨by rw [e, List.length_append, List.length_map, List.length_range]; rfl, fun k hk' => ?_, ?_⟩
  · unfold ptA
    rw [e, List.getD_eq_getElem?_getD, List.getElem?_append_left (by rw [List.length_map, List.length_range]; exact hk'), List.getElem?_map, List.getElem?_range hk']
    rfl
  · unfold ptA
    rw [e, List.getD_eq_getElem?_getD, List.getElem?_append_right (by rw [List.length_map, List.length_range]; exact Nat.le_refl _), List.length_map, List.length_range, Nat.sub_self]
    rfl
theorem tdB_3 {d : Nd} {w : Nat} (hk : nK d = 3) : tdB d w = bgB w (nW d) := by
  obtain ⟨h1, h2, h3⟩ := ptA_pre hk
  have hns : ∀ k, k < lnW (nW d) → ptA d k ≠ 38 ∧ ptA d k ≠ 37 := fun k hk' => by
    rw [h2 k hk']
    have := dg_lt (nW d) k
    omega
  unfold tdB
  rw [if_neg (by omega), h1, mt_pre hns h3]
  have eA : allB (fun i => dg w i == ptA d i) (lnW (nW d)) = bgB w (nW d) := by
    unfold bgB
    rw [Bool.eq_iff_iff, allB_iff, allB_iff]
    constructor
    · intro h i hi
      have := h i hi
      rwa [h2 i hi] at this
    · intro h i hi
      rw [h2 i hi]; exact h i hi
  rw [eA]
  cases hb : bgB w (nW d) with
  | false => rw [Bool.and_false]
  | true =>
    rw [Bool.and_true]
    refine decide_eq_true ?_
    have hall := allB_iff.mp hb
    by_cases c : lnW w < lnW (nW d)
    · exfalso
      have e1 := hall (lnW w) c
      rw [beq_iff_eq] at e1
      have e2 := lnW_end (w := w) (by have := lnW_le (nW d); omega)
      have e3 := lnW_pos (w := nW d) c
      omega
    · omega
section BG
variable {v v' : Nat → Int32} {f f' : Nat → Nat → Int32} {g g' : Nat → Nat → Int64} {w u : Nat}
theorem p_begins {Q : QI} (hw : w < 2 ^ 63) (hu : u < 2 ^ 63) (hp : mPow g) (h : Q (bI (bgB w u)) v f g) : r_begins Q (lN w) (lN u) v f g := by
  have l12 := lnW_le u
  unfold r_begins r_begins_6L
  refine lfp_cnt (lnW u) (fun k y => y = (lN w, lN u, bI (allB (fun k => dg w k == dg u k) k), nI k, v, f, g)) ?_ rfl
  rintro P k _ hk rfl ih
  show r_begins_6 Q _ (lN w) (lN u) (bI (allB (fun k => dg w k == dg u k) k)) (nI k) v f g
  have step := allB_s (fun k => dg w k == dg u k) k
  unfold r_begins_6
  refine p_length hu hp (pk_le (lnW u) k (fun z => ?_) (fun z => ?_))
  · obtain rfl : k = lnW u := by omega
    exact ⟨⟨_, rfl⟩, h⟩
  have go : ∀ t : Bool, t = allB (fun k => dg w k == dg u k) (k + 1) → r_begins_43 Q (fun b0 b1 b2 b3 v f g => P (b0, b1, b2, b3, v, f, g)) (lN w) (lN u) (nI k) (bI t) v f g := by
    intro t ht
    unfold r_begins_43
    rintro _ rfl
    rw [nI_add, ht]
    exact ih _ z rfl
  unfold r_begins_42
  refine w_B0 (fun e => go false (by rw [step, e]; rfl)) (fun e => p_at hw (by omega) hp (p_at hu (by omega) hp ?_))
  have d1 := dg_lt w k
  have d2 := dg_lt u k
  refine w_ne (dg w k) (dg u k) (fun c => go false ?_) (fun c => go true ?_)
  · have : (dg w k == dg u k) = false := by simpa using c
    rw [step, e, this]; rfl
  · rw [step, e, c]; simp
/-- rows are scratch -/
def rS2 (f f' : Nat → Nat → Int32) : Prop := ∀ n, n ≠ 52 → n ≠ 53 → f' n = f n
theorem p_isLike {Q : QI} {o n : Nat} {q : Nat → Nat} (hw : w < 2 ^ 63) (hp : mPow g) (ho : o < 1968) (hn : n ≤ 12) (h42 : f 42 o = nI n) (hq : ∀ k, k < n → f 47 (12 * o + k) = nI (q k) ∧ q k < 39) (h : ∀ f', rS2 f f' → Q (bI (mtR q (dg w) n (lnW w))) v f' g) : r_isLike Q (lN w) (nI o) v f g := by
  have l12 := lnW_le w
  have oin : vp_in (nI o) 1968 := pk_in o 1968 ho
  have oc : (nI o).toNatClampNeg = o := nI_clamp (by omega)
  obtain ⟨len, hlen⟩ : ∃ len, len = lnW w := ⟨_, rfl⟩
  rw [← hlen] at h l12
  unfold r_isLike
  refine p_length hw hp ?_
  rw [← hlen]
  -- the rows of the pattern
  have main : ∀ f1, rS2 f f1 → (∀ j, j ≤ len → f1 52 j = bI (mtR q (dg w) 0 j)) → r_isLike_43L Q (lN w) (nI o) (nI len) (nI 0) v f1 g := by
    intro f1 s1 h52
    unfold r_isLike_43L
    refine lfp_cnt n (fun k y => ∃ f', rS2 f f' ∧ (∀ j, j ≤ len → f' 52 j = bI (mtR q (dg w) k j)) ∧ y = (lN w, nI o, nI len, nI k, v, f', g)) ?_ ⟨f1, s1, h52, rfl⟩
    rintro P k _ hk ⟨f', a1, a2, rfl⟩ ih
    show r_isLike_43 Q _ (lN w) (nI o) (nI len) (nI k) v f' g
    unfold r_isLike_43
    rw [oc, a1 42 (by decide) (by decide), h42]
    refine ⟨oin, pk_le n k (fun z => ⟨pk_in len 14 (by omega), ?_⟩) (fun z => ?_)⟩
    · obtain rfl : k = n := by omega
      rw [nI_clamp (show len < 2 ^ 31 by omega), a2 len (Nat.le_refl _)]
      exact w_N1 (fun e => by have := h f' a1; rw [e] at this; exact this) (fun e => by have := h f' a1; rw [e] at this; exact this)
    obtain ⟨q1, q2⟩ := hq k z
    rw [pk_mul, nI_add, nI_clamp (show 12 * o + k < 2 ^ 31 by omega), a1 47 (by decide) (by decide), q1]
    refine ⟨pk_in (12 * o + k) 23616 (by omega), ?_⟩
    rintro _ rfl
    unfold r_isLike_71L
    refine lfp_cnt (len + 1) (fun j y => ∃ f2, rS2 f f2 ∧ (∀ i, i ≤ len → f2 52 i = bI (mtR q (dg w) k i)) ∧ (∀ i, i < j → f2 53 i = bI (mtR q (dg w) (k + 1) i)) ∧ y = (lN w, nI o, nI len, nI k, nI (q k), nI j, v, f2, g)) ?_ ⟨f', a1, a2, fun i hi => absurd hi (Nat.not_lt_zero i), rfl⟩
    rintro P2 j _ hj ⟨f2, b1, b2, b3, rfl⟩ ih2
    show r_isLike_71 Q _ _ (lN w) (nI o) (nI len) (nI k) (nI (q k)) (nI j) v f2 g
    unfold r_isLike_71
    refine pk_lt len j (fun z2 => ?_) (fun z2 => ?_)
    · obtain rfl : j = len + 1 := by omega
      unfold r_isLike_194L
      refine lfp_cnt (len + 1) (fun i y => ∃ f3, rS2 f f3 ∧ (∀ t, t ≤ len → f3 53 t = bI (mtR q (dg w) (k + 1) t)) ∧ (∀ t, t < i → f3 52 t = bI (mtR q (dg w) (k + 1) t)) ∧ y = (lN w, nI o, nI len, nI k, nI i, v, f3, g)) ?_ ⟨f2, b1, fun t ht => b3 t (by omega), fun t ht => absurd ht (Nat.not_lt_zero t), rfl⟩
      rintro P3 i _ hi ⟨f3, c1, c2, c3, rfl⟩ ih3
      show r_isLike_194 Q _ _ (lN w) (nI o) (nI len) (nI k) (nI i) v f3 g
      unfold r_isLike_194
      refine pk_lt len i (fun z3 => ?_) (fun z3 => ?_)
      · obtain rfl : i = len + 1 := by omega
        rintro _ rfl
        rw [nI_add]
        exact ih _ z ⟨f3, c1, fun j hj => c3 j (by omega), rfl⟩
      · have iin : vp_in (nI i) 14 := pk_in i 14 (by omega)
        rw [nI_clamp (show i < 2 ^ 31 by omega), c2 i z3]
        refine ⟨iin, iin, fun f4 e4 => ?_⟩
        rintro _ rfl
        rw [nI_add]
        have r52 : f4 52 = fun t => if t = i then bI (mtR q (dg w) (k + 1) i) else f3 52 t := by rw [e4, mU_s]
        refine ih3 _ (by omega) ⟨f4, fun r h1 h2 => by rw [e4, mU_n h1]; exact c1 r h1 h2, fun t ht => by rw [e4, mU_n (by decide)]; exact c2 t ht, fun t ht => ?_, rfl⟩
        rw [r52]
        show (if t = i then _ else f3 52 t) = _
        by_cases e : t = i
        · rw [if_pos e, e]
        · rw [if_neg e]; exact c3 t (by omega)
    · have jin : vp_in (nI j) 14 := pk_in j 14 (by omega)
      have jc : (nI j).toNatClampNeg = j := nI_clamp (by omega)
      have put : ∀ b : Bool, b = mtR q (dg w) (k + 1) j → r_isLike_166 Q (fun b0 b1 b2 b3 v f g => P (b0, b1, b2, b3, v, f, g)) (fun b0 b1 b2 b3 b4 b5 v f g => P2 (b0, b1, b2, b3, b4, b5, v, f, g)) (lN w) (nI o) (nI len) (nI k) (nI (q k)) (nI j) (bI b) v f2 g := by
        intro b hb
        have fin : r_isLike_184 Q (fun b0 b1 b2 b3 v f g => P (b0, b1, b2, b3, v, f, g)) (fun b0 b1 b2 b3 b4 b5 v f g => P2 (b0, b1, b2, b3, b4, b5, v, f, g)) (lN w) (nI o) (nI len) (nI k) (nI (q k)) (nI j) (bI b) (nI j) v f2 g := by
          unfold r_isLike_184
          rw [jc]
          refine ⟨jin, fun f6 e6 => ?_⟩
          rintro _ rfl
          rw [nI_add]
          have r53 : f6 53 = fun t => if t = j then bI b else f2 53 t := by rw [e6, mU_s]
          refine ih2 _ (by omega) ⟨f6, fun r h1 h2 => by rw [e6, mU_n h2]; exact b1 r h1 h2, fun i hi => by rw [e6, mU_n (by decide)]; exact b2 i hi, fun i hi => ?_, rfl⟩
          rw [r53]
          show (if i = j then bI b else f2 53 i) = _
          by_cases e : i = j
          · rw [if_pos e, e, hb]
          · rw [if_neg e]; exact b3 i (by omega)
        unfold r_isLike_166
        cases b with
        | false => exact ⟨fun _ => fin, fun c => absurd rfl c⟩
        | true => exact ⟨fun c => absurd c (by decide), fun _ => fin⟩
      unfold r_isLike_165
      refine w_ne (q k) 38 (fun c => ?_) (fun c => ⟨jin, ?_⟩)
      · cases j with
        | zero => exact ⟨fun _ => put false (by rw [mt_0, decide_eq_false c]; rfl), fun c2 => absurd (show nI 0 ≤ 0 by decide) c2⟩
        | succ j =>
          have mt := mt_sn (w := dg w) (i := j) c
          refine ⟨fun c2 => absurd c2 (nI_nle (by omega) (by omega)), fun _ => ?_⟩
          rw [pk_sub (by omega), Nat.add_sub_cancel, nI_clamp (show j < 2 ^ 31 by omega), b2 j (by omega)]
          refine ⟨pk_in j 14 (by omega), w_N1 (fun e => put false (by rw [mt, e]; rfl)) (fun e => pk_eq (q k) 37 (fun c3 => put true (by rw [mt, e, decide_eq_true c3]; rfl)) (fun c3 => p_at hw (by omega) hp ?_))⟩
          have d37 := dg_lt w j
          exact w_ne (dg w j) (q k) (fun c4 => put false (by rw [mt, e, decide_eq_false c3, decide_eq_false (fun h => c4 h.symm)]; rfl)) (fun c4 => put true (by rw [mt, e, decide_eq_false c3, decide_eq_true c4.symm]; rfl))
      · rw [jc, b2 j (by omega)]
        cases j with
        | zero =>
          have mt : mtR q (dg w) (k + 1) 0 = mtR q (dg w) k 0 := by rw [mt_0, decide_eq_true c, Bool.true_and]
          exact w_P1 (fun e => put true (by rw [mt, e])) (fun e => ⟨fun _ => put false (by rw [mt, e]), fun c2 => absurd (show nI 0 ≤ 0 by decide) c2⟩)
        | succ j =>
          have mt := mt_s38 (w := dg w) (i := j) c
          refine w_P1 (fun e => put true (by rw [mt, e]; rfl)) (fun e => ⟨fun c2 => absurd c2 (nI_nle (by omega) (by omega)), fun _ => ?_⟩)
          rw [pk_sub (by omega), Nat.add_sub_cancel, nI_clamp (show j < 2 ^ 31 by omega), b3 j (by omega)]
          exact ⟨pk_in j 14 (by omega), w_N1 (fun e2 => put false (by rw [mt, e, e2]; rfl)) (fun e2 => put true (by rw [mt, e, e2]; rfl))⟩
  unfold r_isLike_10L
  refine lfp_cnt (len + 1) (fun j y => ∃ f', rS2 f f' ∧ (∀ i, i < j → f' 52 i = bI (mtR q (dg w) 0 i)) ∧ y = (lN w, nI o, nI len, nI j, v, f', g)) ?_ ⟨f, fun _ _ _ => rfl, fun i hi => absurd hi (Nat.not_lt_zero i), rfl⟩
  rintro P j _ hj ⟨f', a1, a2, rfl⟩ ih
  show r_isLike_10 Q _ (lN w) (nI o) (nI len) (nI j) v f' g
  unfold r_isLike_10
  refine pk_lt len j (fun z => ?_) (fun z => ?_)
  · obtain rfl : j = len + 1 := by omega
    exact main f' a1 (fun i hi => a2 i (by omega))
  · have put : ∀ t : Nat, nI t = bI (mtR q (dg w) 0 j) → r_isLike_33 Q (fun b0 b1 b2 b3 v f g => P (b0, b1, b2, b3, v, f, g)) (lN w) (nI o) (nI len) (nI j) (nI t) (nI j) v f' g := by
      intro t ht
      unfold r_isLike_33
      rw [nI_clamp (show j < 2 ^ 31 by omega)]
      refine ⟨pk_in j 14 (by omega), fun f9 e9 => ?_⟩
      rintro _ rfl
      rw [nI_add]
      have r52 : f9 52 = fun i => if i = j then nI t else f' 52 i := by rw [e9, mU_s]
      refine ih _ (by omega) ⟨f9, fun r h1 h2 => by rw [e9, mU_n h1]; exact a1 r h1 h2, fun i hi => ?_, rfl⟩
      rw [r52]
      show (if i = j then nI t else f' 52 i) = _
      by_cases e : i = j
      · rw [if_pos e, e, ht]
      · rw [if_neg e]; exact a2 i (by omega)
    refine w_nz j (fun c => put 0 ?_) (fun c => put 1 ?_)
    · rw [mtR, decide_eq_false (by omega)]; rfl
    · rw [mtR, decide_eq_true c]; rfl
theorem p_edits {Q : QI} (hw : w < 2 ^ 63) (hu : u < 2 ^ 63) (hp : mPow g) (h : ∀ f', rS2 f f' → Q (nI (edR (dg w) (dg u) (lnW w) (lnW u))) v f' g) : r_edits Q (lN w) (lN u) v f g := by
  have l12 := lnW_le w
  have l12u := lnW_le u
  rw [edR_sym] at h
  obtain ⟨len, hlen⟩ : ∃ len, len = lnW w := ⟨_, rfl⟩
  rw [← hlen] at h l12
  have eb : ∀ i j, edR (dg u) (dg w) i j ≤ i + j := fun i j => (edR_ge i j).2.2
  unfold r_edits
  refine p_length hw hp ?_
  rw [← hlen]
  have main : ∀ f1, rS2 f f1 → (∀ j, j ≤ len → f1 52 j = nI (edR (dg u) (dg w) 0 j)) → r_edits_35L Q (lN w) (lN u) (nI len) (nI 1) v f1 g := by
    intro f1 s1 h52
    unfold r_edits_35L
    refine lfp_cnt (lnW u) (fun k y => ∃ f', rS2 f f' ∧ (∀ j, j ≤ len → f' 52 j = nI (edR (dg u) (dg w) k j)) ∧ y = (lN w, lN u, nI len, nI (k + 1), v, f', g)) ?_ ⟨f1, s1, h52, rfl⟩
    rintro P k _ hk ⟨f', a1, a2, rfl⟩ ih
    show r_edits_35 Q _ (lN w) (lN u) (nI len) (nI (k + 1)) v f' g
    unfold r_edits_35
    refine p_length hu hp (pk_lt (lnW u) (k + 1) (fun z => ⟨pk_in len 14 (by omega), ?_⟩) (fun z => ?_))
    · obtain rfl : k = lnW u := by omega
      rw [nI_clamp (show len < 2 ^ 31 by omega), a2 len (Nat.le_refl _)]
      exact h f' a1
    unfold r_edits_48L
    refine lfp_cnt (len + 1) (fun j y => ∃ f2, rS2 f f2 ∧ (∀ i, i ≤ len → f2 52 i = nI (edR (dg u) (dg w) k i)) ∧ (∀ i, i < j → f2 53 i = nI (edR (dg u) (dg w) (k + 1) i)) ∧ y = (lN w, lN u, nI len, nI (k + 1), nI j, v, f2, g)) ?_ ⟨f', a1, a2, fun i hi => absurd hi (Nat.not_lt_zero i), rfl⟩
    rintro P2 j _ hj ⟨f2, b1, b2, b3, rfl⟩ ih2
    show r_edits_48 Q _ _ (lN w) (lN u) (nI len) (nI (k + 1)) (nI j) v f2 g
    unfold r_edits_48
    refine pk_lt len j (fun z2 => ?_) (fun z2 => ?_)
    · obtain rfl : j = len + 1 := by omega
      unfold r_edits_177L
      refine lfp_cnt (len + 1) (fun i y => ∃ f3, rS2 f f3 ∧ (∀ t, t ≤ len → f3 53 t = nI (edR (dg u) (dg w) (k + 1) t)) ∧ (∀ t, t < i → f3 52 t = nI (edR (dg u) (dg w) (k + 1) t)) ∧ y = (lN w, lN u, nI len, nI (k + 1), nI i, v, f3, g)) ?_ ⟨f2, b1, fun t ht => b3 t (by omega), fun t ht => absurd ht (Nat.not_lt_zero t), rfl⟩
      rintro P3 i _ hi ⟨f3, c1, c2, c3, rfl⟩ ih3
      show r_edits_177 Q _ _ (lN w) (lN u) (nI len) (nI (k + 1)) (nI i) v f3 g
      unfold r_edits_177
      refine pk_lt len i (fun z3 => ?_) (fun z3 => ?_)
      · obtain rfl : i = len + 1 := by omega
        rintro _ rfl
        rw [nI_add]
        exact ih _ (by omega) ⟨f3, c1, fun j hj => c3 j (by omega), rfl⟩
      · have iin : vp_in (nI i) 14 := pk_in i 14 (by omega)
        rw [nI_clamp (show i < 2 ^ 31 by omega), c2 i z3]
        refine ⟨iin, iin, fun f4 e4 => ?_⟩
        rintro _ rfl
        rw [nI_add]
        have r52 : f4 52 = fun t => if t = i then nI (edR (dg u) (dg w) (k + 1) i) else f3 52 t := by rw [e4, mU_s]
        refine ih3 _ (by omega) ⟨f4, fun r h1 h2 => by rw [e4, mU_n h1]; exact c1 r h1 h2, fun t ht => by rw [e4, mU_n (by decide)]; exact c2 t ht, fun t ht => ?_, rfl⟩
        rw [r52]
        show (if t = i then _ else f3 52 t) = _
        by_cases e : t = i
        · rw [if_pos e, e]
        · rw [if_neg e]; exact c3 t (by omega)
    · have jin : vp_in (nI j) 14 := pk_in j 14 (by omega)
      have jc : (nI j).toNatClampNeg = j := nI_clamp (by omega)
      have put : ∀ t : Nat, t = edR (dg u) (dg w) (k + 1) j → r_edits_159 Q (fun b0 b1 b2 b3 v f g => P (b0, b1, b2, b3, v, f, g)) (fun b0 b1 b2 b3 b4 v f g => P2 (b0, b1, b2, b3, b4, v, f, g)) (lN w) (lN u) (nI len) (nI (k + 1)) (nI j) (nI t) v f2 g := by
        intro t ht
        unfold r_edits_159
        rw [jc]
        refine ⟨jin, fun f7 e7 => ?_⟩
        rintro _ rfl
        rw [nI_add]
        have r53 : f7 53 = fun i => if i = j then nI t else f2 53 i := by rw [e7, mU_s]
        refine ih2 _ (by omega) ⟨f7, fun r h1 h2 => by rw [e7, mU_n h2]; exact b1 r h1 h2, fun i hi => by rw [e7, mU_n (by decide)]; exact b2 i hi, fun i hi => ?_, rfl⟩
        rw [r53]
        show (if i = j then nI t else f2 53 i) = _
        by_cases e : i = j
        · rw [if_pos e, e, ht]
        · rw [if_neg e]; exact b3 i (by omega)
      rw [jc, b2 j (by omega), nI_add]
      refine ⟨jin, ?_⟩
      rintro _ rfl
      cases j with
      | zero => exact ⟨fun _ => put _ (by rw [edR_0, edR_0]), fun c => absurd (show nI 0 ≤ 0 by decide) c⟩
      | succ j =>
        refine ⟨fun c2 => absurd c2 (nI_nle (by omega) (by omega)), fun _ => ?_⟩
        have e1 := eb k (j + 1)
        have e2 := eb (k + 1) j
        have e3 := eb k j
        have ex : edR (dg u) (dg w) (k + 1) (j + 1) = min (min (edR (dg u) (dg w) k (j + 1)) (edR (dg u) (dg w) (k + 1) j) + 1) (edR (dg u) (dg w) k j + (if dg u k = dg w j then 0 else 1)) := by rw [edR]
        have jin' : vp_in (nI j) 14 := pk_in j 14 (by omega)
        have last : ∀ t : Nat, t = min (edR (dg u) (dg w) k (j + 1)) (edR (dg u) (dg w) (k + 1) j) + 1 → r_edits_103 Q (fun b0 b1 b2 b3 v f g => P (b0, b1, b2, b3, v, f, g)) (fun b0 b1 b2 b3 b4 v f g => P2 (b0, b1, b2, b3, b4, v, f, g)) (lN w) (lN u) (nI len) (nI (k + 1)) (nI (j + 1)) (nI t) v f2 g := by
          intro t ht
          have fin : ∀ c : Nat, c = (if dg u k = dg w j then 0 else 1) → r_edits_140 Q (fun b0 b1 b2 b3 v f g => P (b0, b1, b2, b3, v, f, g)) (fun b0 b1 b2 b3 b4 v f g => P2 (b0, b1, b2, b3, b4, v, f, g)) (lN w) (lN u) (nI len) (nI (k + 1)) (nI (j + 1)) (nI t) (nI c) (nI (edR (dg u) (dg w) k j)) v f2 g := by
            intro c hc
            have c1 : c ≤ 1 := by rw [hc]; split <;> omega
            rw [← hc, ← ht] at ex
            unfold r_edits_140 r_edits_157
            rintro _ rfl
            rw [nI_add]
            refine pk_le t (edR (dg u) (dg w) k j + c) (fun z3 => put t (by omega)) (fun z3 => put _ (by omega))
          unfold r_edits_103
          rw [pk_sub (show 1 ≤ j + 1 by omega), Nat.add_sub_cancel, pk_sub (show 1 ≤ k + 1 by omega), Nat.add_sub_cancel, nI_clamp (show j < 2 ^ 31 by omega), b2 j (by omega)]
          refine ⟨jin', p_at hw (by omega) hp (p_at hu (by omega) hp ?_)⟩
          have d1 := dg_lt w j
          have d2 := dg_lt u k
          exact w_ne (dg w j) (dg u k) (fun c => fin 1 (by rw [if_neg (fun q => c q.symm)])) (fun c => fin 0 (by rw [if_pos c.symm]))
        rw [pk_sub (show 1 ≤ j + 1 by omega), Nat.add_sub_cancel, nI_clamp (show j < 2 ^ 31 by omega), b3 j (by omega), nI_add]
        exact ⟨jin', pk_le (edR (dg u) (dg w) k (j + 1) + 1) (edR (dg u) (dg w) (k + 1) j + 1) (fun z3 => last _ (by omega)) (fun z3 => ⟨jin', last _ (by omega)⟩)⟩
  unfold r_edits_10L
  refine lfp_cnt (len + 1) (fun j y => ∃ f', rS2 f f' ∧ (∀ i, i < j → f' 52 i = nI (edR (dg u) (dg w) 0 i)) ∧ y = (lN w, lN u, nI len, nI j, v, f', g)) ?_ ⟨f, fun _ _ _ => rfl, fun i hi => absurd hi (Nat.not_lt_zero i), rfl⟩
  rintro P j _ hj ⟨f', a1, a2, rfl⟩ ih
  show r_edits_10 Q _ (lN w) (lN u) (nI len) (nI j) v f' g
  unfold r_edits_10
  refine pk_lt len j (fun z => ?_) (fun z => ⟨pk_in j 14 (by omega), fun f12 e12 => ?_⟩)
  · obtain rfl : j = len + 1 := by omega
    exact main f' a1 (fun i hi => a2 i (by omega))
  · rw [nI_clamp (show j < 2 ^ 31 by omega)] at e12
    rintro _ rfl
    rw [nI_add]
    have r52 : f12 52 = fun i => if i = j then nI j else f' 52 i := by rw [e12, mU_s]
    refine ih _ (by omega) ⟨f12, fun r h1 h2 => by rw [e12, mU_n h1]; exact a1 r h1 h2, fun i hi => ?_, rfl⟩
    rw [r52]
    show (if i = j then nI j else f' 52 i) = _
    by_cases e : i = j
    · rw [if_pos e, e, edR]
    · rw [if_neg e]; exact a2 i (by omega)
end BG
