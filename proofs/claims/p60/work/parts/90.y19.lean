/-! postings are read: documents -/
/-- the numbers of some documents -/
def nmN : Nat → List (Nat × Nat) → List Nat
  | _, [] => []
  | lp, x :: r => docN x.1 lp x.2 ++ nmN (x.1 + 1) r
/-- documents rise, their masks aren't empty -/
def okP : Nat → List (Nat × Nat) → Prop
  | _, [] => True
  | lp, x :: r => (lp ≤ x.1 ∧ x.1 < 100 ∧ x.2 < 2 ^ 20 ∧ x.2 ≠ 0) ∧ okP (x.1 + 1) r
def spR (l : List (Nat × Nat)) (R : Nat → Nat) : Nat → Nat := l.foldl (fun R x => upR R x.1 (R x.1 ||| x.2)) R
theorem okP_128 : ∀ {l : List (Nat × Nat)} {lp : Nat}, okP lp l → ∀ x, x ∈ nmN lp l → x < 128
  | [], _, _, x, hx => absurd hx (List.not_mem_nil)
  | y :: r, lp, h, x, hx => by
    rcases List.mem_append.mp hx with z | z
    · exact docN_128 (by have := h.1.2.1; omega) x z
    · exact okP_128 h.2 x z
theorem okP_len : ∀ {l : List (Nat × Nat)} {lp : Nat}, okP lp l → lp ≤ 100 → l.length + lp ≤ 100
  | [], lp, _, h => by show 0 + lp ≤ 100; omega
  | y :: r, lp, h, _ => by
    have := okP_len h.2 (by have := h.1.2.1; omega)
    have := h.1.1
    rw [List.length_cons]; omega
theorem nmN_len : ∀ (l : List (Nat × Nat)) (lp : Nat), (nmN lp l).length ≤ 22 * l.length
  | [], _ => Nat.le_refl _
  | y :: r, lp => by
    have h1 := nmN_len r (y.1 + 1)
    have h2 := docN_len (i := y.1) (lp := lp) (m := y.2)
    rw [nmN, List.length_append, List.length_cons]; omega
theorem pcN_mono (m k : Nat) : ∀ d : Nat, pcN m k ≤ pcN m (k + d)
  | 0 => Nat.le_refl _
  | d + 1 => Nat.le_trans (pcN_mono m k d) (Nat.le_add_right _ _)
theorem pcN_none {m k : Nat} : ∀ {d : Nat}, pcN m k = pcN m (k + d) → ∀ i, k ≤ i → i < k + d → m.testBit i = false
  | 0, _, i, h1, h2 => by omega
  | d + 1, h, i, h1, h2 => by
    have a := pcN_mono m k d
    have b : pcN m (k + (d + 1)) = pcN m (k + d) + (if m.testBit (k + d) = true then 1 else 0) := rfl
    rw [b] at h
    by_cases c : m.testBit (k + d) = true
    · rw [if_pos c] at h; omega
    · rw [if_neg c] at h
      rcases Nat.lt_or_ge i (k + d) with z | z
      · exact pcN_none (by omega) i h1 z
      · obtain rfl : i = k + d := by omega
        exact Bool.eq_false_iff.mpr c
/-- the next place of a mask -/
theorem pcN_next {m k n : Nat} (h : pcN m k < pcN m n) (hk : k ≤ n) : ∃ q, k ≤ q ∧ q < n ∧ m.testBit q = true ∧ pcN m q = pcN m k := by
  obtain ⟨d, rfl⟩ : ∃ d, n = k + d := ⟨n - k, by omega⟩
  clear hk
  induction d with
  | zero => exact absurd h (Nat.lt_irrefl _)
  | succ d ih =>
    rcases Nat.lt_or_ge (pcN m k) (pcN m (k + d)) with z | z
    · obtain ⟨q, q1, q2, q3, q4⟩ := ih z
      exact ⟨q, q1, by omega, q3, q4⟩
    · have a := pcN_mono m k d
      have b : pcN m (k + (d + 1)) = pcN m (k + d) + (if m.testBit (k + d) = true then 1 else 0) := rfl
      rw [b] at h
      by_cases c : m.testBit (k + d) = true
      · exact ⟨k + d, by omega, by omega, c, by omega⟩
      · rw [if_neg c] at h; omega
theorem mod_none {m k q : Nat} (hkq : k ≤ q) (h : ∀ i, k ≤ i → i < q → m.testBit i = false) : m % 2 ^ q = m % 2 ^ k := by
  apply Nat.eq_of_testBit_eq
  intro j
  rw [Nat.testBit_mod_two_pow, Nat.testBit_mod_two_pow]
  by_cases c : j < k
  · rw [decide_eq_true c, decide_eq_true (show j < q by omega)]
  · rw [decide_eq_false c]
    by_cases c2 : j < q
    · rw [h j (by omega) c2, Bool.and_false, Bool.false_and]
    · rw [decide_eq_false c2]
theorem mod_succ {m q : Nat} (h : m.testBit q = true) : m % 2 ^ (q + 1) = m % 2 ^ q ||| 2 ^ q := by
  apply Nat.eq_of_testBit_eq
  intro j
  rw [Nat.testBit_or, Nat.testBit_mod_two_pow, Nat.testBit_mod_two_pow, Nat.testBit_two_pow]
  by_cases c : j = q
  · subst c; rw [h]; simp
  · by_cases c2 : j < q
    · rw [decide_eq_true c2, decide_eq_true (show j < q + 1 by omega), decide_eq_false (show ¬ q = j by omega), Bool.or_false]
    · rw [decide_eq_false c2, decide_eq_false (show ¬ j < q + 1 by omega), decide_eq_false (show ¬ q = j by omega)]; rfl
theorem gpL_none {m k : Nat} : ∀ {d : Nat}, (∀ i, k ≤ i → i < k + d → m.testBit i = false) → gpL m (k + d) = gpL m k
  | 0, _ => rfl
  | d + 1, h => by
    show (if m.testBit (k + d) = true then _ else gpL m (k + d)) = _
    rw [if_neg (by rw [h (k + d) (by omega) (by omega)]; decide)]
    exact gpL_none (fun i h1 h2 => h i h1 (by omega))
theorem get_mid {α : Type} {a b : List α} {k : Nat} {x : α} (h : b[k]? = some x) : (a ++ b)[a.length + k]? = some x := by
  rw [List.getElem?_append_right (by omega), Nat.add_sub_cancel_left]; exact h
theorem get_pre {α : Type} {a b : List α} {k : Nat} {x : α} (h : a[k]? = some x) : (a ++ b)[k]? = some x := by
  rw [List.getElem?_append_left (get_lt h)]; exact h
/-- the state of reading does not change by other writes -/
theorem rdI_eq {S T : cS} {p j : Nat} {xs : List Nat} (h : rdI S p xs j) (hi : ∀ q, 167 ≤ q → ci T q p = ci S q p) : rdI T p xs j := by
  obtain ⟨h1, h2, h3⟩ := h
  exact ⟨(hi _ (by decide)).trans h1, fun z => (hi _ (by decide)).trans (h2 z), fun z => ⟨(hi _ (by decide)).trans (h3 z).1, (hi _ (by decide)).trans (h3 z).2⟩⟩
/-- postings and a row change by reading -/
def pSp (S T : cS) (p b : Nat) : Prop := cSub S T (fun z => z = p ∨ z = b) ∧ (∀ q, q < 167 → ci T q p = ci S q p) ∧ (∀ q, cr T q p = cr S q p) ∧ ∀ q, cw T q p = cw S q p
section SP2
variable {S T U : cS} {dp p b : Nat}
theorem pSp_rf : pSp S S p b := ⟨sub_rf, fun _ _ => rfl, fun _ => rfl, fun _ => rfl⟩
theorem pSp_tr (h : pSp S T p b) (g : pSp T U p b) : pSp S U p b := ⟨sub_tr h.1 g.1 (fun _ _ z => z), fun q hq => (g.2.1 q hq).trans (h.2.1 q hq), fun q => (g.2.2.1 q).trans (h.2.2.1 q), fun q => (g.2.2.2 q).trans (h.2.2.2 q)⟩
theorem pSp_R (h : pRd S T p) : pSp S T p b := ⟨sub_wk h.1 (fun _ _ z => Or.inl z), h.2.1, h.2.2.1, h.2.2.2⟩
theorem pB_Sp {l : List Bool} (h : pSp S T p b) (hb : cA S b 14) (g : pB S p l) : pB T p l := by
  obtain ⟨q1, q2, q3, c, b1, b2, b3, b4⟩ := g
  have nc : ¬ (c = p ∨ c = b) := by
    rintro (z | z)
    · exact cA_ne b2 q1 (by decide) z
    · exact cA_ne b2 hb (by decide) z
  exact ⟨sub_A1 h.1 q1, (h.2.1 _ (by decide)).trans q2, q3, c, (h.2.2.1 _).trans b1, sub_A1 h.1 b2, (sub_cn h.1 b2).trans b3, by rw [sub_cI h.1 b2 nc]; exact b4⟩
set_option maxHeartbeats 2000000 in
theorem q_spread {Q : cS → Prop} {pst : List (Nat × Nat)} {R : Nat → Nat} {N : Nat} (hb : pB S p (encN (nmN 0 pst))) (hok : okP 0 pst) (h163 : ci S 163 p = nI pst.length) (bA : cA S b 14) (bn : cn S b = N) (hN : N < 2 ^ 20) (hpN : ∀ x, x ∈ pst → x.1 < N) (hR : ∀ k, k < N → cI S b k = nI (R k)) (h : ∀ T, pSp S T p b → (∀ k, k < N → cI T b k = nI (spR pst R k)) → Q T) : k_X5_spread Q dp p b S := by
  have hlen := okP_len hok (by decide)
  have hnl := nmN_len pst 0
  have h128 := okP_128 hok
  have npb : p ≠ b := cA_ne hb.1 bA (by decide)
  unfold k_X5_spread
  refine ⟨hb.1, fun S1 e1 => ?_⟩
  have v1 := pRd_Si e1 (by decide)
  refine ⟨sub_A1 v1.1 hb.1, fun S2 e2 => ?_⟩
  have v2 := pRd_tr v1 (pRd_Si e2 (by decide))
  rintro _ rfl
  unfold k_X5_spread_14L
  -- after k documents
  refine lfp_cnt pst.length (fun k y => ∃ S' lp, pSp S S' p b ∧ okP lp (pst.drop k) ∧ nmN 0 pst = nmN 0 (pst.take k) ++ nmN lp (pst.drop k) ∧ rdI S' p (nmN 0 pst) (nmN 0 (pst.take k)).length ∧ (∀ i, i < N → cI S' b i = nI (spR (pst.take k) R i)) ∧ y = (p, b, nM lp, nI k, S')) ?_ ⟨S2, 0, pSp_R v2, hok, rfl, ⟨hi_Si_s e2, fun _ => hi_Si_q e2 (by decide) (hi_Si_s e1), fun z => absurd rfl z⟩, fun i hi => ?_, by rw [nM_0]⟩
  · rintro P k _ hk ⟨S', lp, v, ok, hnm, hrd, hRow, rfl⟩ ih
    show k_X5_spread_14 Q dp _ p b (nM lp) (nI k) S'
    have hb' := pB_Sp v bA hb
    have c163 := (v.2.1 163 (by decide)).trans h163
    unfold k_X5_spread_14
    rw [c163]
    refine ⟨hb'.1, (w_nle pst.length k (fun hlt => ?_) (fun z => ?_)).symm⟩
    · obtain ⟨⟨i, m⟩, hx⟩ := get_ex hlt
      have hdr : pst.drop k = (i, m) :: pst.drop (k + 1) := by
        rw [List.drop_eq_getElem_cons hlt]
        congr 1
        exact Option.some.inj ((List.getElem?_eq_getElem hlt).symm.trans hx)
      have htk : pst.take (k + 1) = pst.take k ++ [(i, m)] := by rw [List.take_succ, hx]; rfl
      have hiN : i < N := hpN (i, m) (List.mem_of_getElem? hx)
      rw [hdr] at ok hnm
      obtain ⟨⟨ok1, ok2, ok3, ok4⟩, okr⟩ := ok
      simp only at ok1 ok2 ok3 ok4 okr
      have hnm : nmN 0 pst = nmN 0 (pst.take k) ++ (docN i lp m ++ nmN (i + 1) (pst.drop (k + 1))) := hnm
      generalize hA : nmN 0 (pst.take k) = A at hnm hrd
      generalize hC : nmN (i + 1) (pst.drop (k + 1)) = C at hnm
      have hbits : ∃ q, q < 20 ∧ m.testBit q = true := by
        obtain ⟨q, hq⟩ := Nat.exists_testBit_of_ne_zero ok4
        refine ⟨q, ?_, hq⟩
        rcases Nat.lt_or_ge q 20 with z | z
        · exact z
        · rw [Nat.testBit_lt_two_pow (Nat.lt_of_lt_of_le ok3 (Nat.pow_le_pow_right (by decide) z))] at hq
          exact Bool.noConfusion hq
      obtain ⟨q0, hq0, hq1⟩ := hbits
      have hpos := pcN_pos hq1 hq0
      have hp20 := pcN_le m 20
      have gl20 := gpL_len m 20
      have hdl : (docN i lp m).length = 2 + pcN m 20 := by
        show (gpL m 20).1.length + 1 + 1 = _
        rw [gl20]; omega
      have hget : ∀ {j x : Nat}, (docN i lp m)[j]? = some x → (nmN 0 pst)[A.length + j]? = some x := fun hj => by
        rw [hnm]; exact get_mid (get_pre hj)
      have hlenN : (nmN 0 pst).length < 2 ^ 16 := by omega
      have hAl : A.length + (2 + pcN m 20) ≤ (nmN 0 pst).length := by
        rw [hnm, List.length_append, List.length_append, hdl]; omega
      refine ⟨hb'.1, q_nextNumber hb' hrd (hget (j := 0) rfl) h128 hlenN (fun S4 v4 r4 => ?_)⟩
      rw [nI_add]
      have ed : nM lp + nI (i - lp + 1) = nI i := by
        have : nI (i - lp + 1) = nI (i + 1) - nI lp := by rw [pk_sub (by omega)]; congr 1; omega
        rw [this, ← nI_add]
        unfold nM
        grind
      rw [ed]
      rintro _ rfl
      have hb4 := pB_Rd v4 hb'
      refine ⟨hb4.1, q_nextNumber hb4 r4 (hget (j := 1) rfl) h128 hlenN (fun S6 v6 r6 => ?_)⟩
      rw [nI_add, show pcN m 20 - 1 + 1 = pcN m 20 by omega]
      rintro _ rfl _ rfl
      have v46 := pRd_tr v4 v6
      unfold k_X5_spread_48L
      -- after j places
      refine lfp_cnt (pcN m 20) (fun j y => ∃ S'' q, pRd S' S'' p ∧ q ≤ 20 ∧ (gpL m q).2 = q ∧ pcN m q = j ∧ rdI S'' p (nmN 0 pst) (A.length + (2 + j)) ∧ y = (p, b, nI i, nI k, nI (pcN m 20), nM q, nI (m % 2 ^ q), nI j, S'')) ?_ ⟨S6, 0, v46, by decide, rfl, rfl, by rw [Nat.add_zero]; exact r6, by rw [nM_0, Nat.pow_zero, Nat.mod_one]⟩
      rintro P2 j _ hj ⟨S'', q, w, hq20, hgq, hpq, rr, rfl⟩ ih2
      show k_X5_spread_48 Q dp (fun b0 b1 b2 b3 S => P (b0, b1, b2, b3, S)) (fun b0 b1 b2 b3 b4 b5 b6 b7 S => P2 (b0, b1, b2, b3, b4, b5, b6, b7, S)) p b (nI i) (nI k) (nI (pcN m 20)) (nM q) (nI (m % 2 ^ q)) (nI j) S''
      have hb'' := pB_Rd w hb'
      have bA'' := sub_A1 w.1 (sub_A1 v.1 bA)
      have bn'' := (sub_cn w.1 (sub_A1 v.1 bA)).trans ((sub_cn v.1 bA).trans bn)
      have I'' : cI S'' b = cI S' b := sub_cI w.1 (sub_A1 v.1 bA) (Ne.symm npb)
      have hmq : m % 2 ^ q < 2 ^ 20 := Nat.lt_of_le_of_lt (Nat.mod_le _ _) ok3
      unfold k_X5_spread_48
      refine pk_le (pcN m 20) j (fun z => ?_) (fun hjl => ?_)
      · obtain rfl : j = pcN m 20 := by omega
        have em : m % 2 ^ q = m := by
          obtain ⟨d, hd⟩ : ∃ d, 20 = q + d := ⟨20 - q, by omega⟩
          have h0 : ∀ y, q ≤ y → y < 20 → m.testBit y = false := fun y h1 h2 => by
            rw [hd] at hpq h2
            exact pcN_none hpq y h1 h2
          rw [← mod_none hq20 h0]
          exact Nat.mod_eq_of_lt ok3
        rw [em]
        refine w_pos i ⟨bA'', (w_nle N i (fun _ => ?_) (fun z => absurd z (by omega)) (by rw [bn'']) rfl).symm⟩
        have hX : cX S'' b 14 (nI i) := cX_mk bA'' bn'' (by omega) hiN rfl
        refine ⟨hX, hX, fun S10 e10 => ?_⟩
        rw [nI_clamp (by omega), I'', hRow i hiN, nI_or] at e10
        unfold k_X5_spread_99
        rintro _ rfl
        rw [nI_add]
        have v10 : pSp S'' S10 p b := ⟨e10 ▸ sub_SI (F := fun z => z = p ∨ z = b) (Or.inr rfl), fun y _ => hi_SI e10 rfl, fun y => hr_SI e10 rfl, fun y => by rw [e10]; rfl⟩
        refine ih _ hlt ⟨S10, i + 1, pSp_tr v (pSp_tr (pSp_R w) v10), okr, ?_, ?_, fun y hy => ?_, by rw [nM_s]⟩
        · rw [htk, hC]
          have : ∀ (l : List (Nat × Nat)) (a : Nat), okP a (l ++ (i, m) :: pst.drop (k + 1)) → nmN a (l ++ (i, m) :: pst.drop (k + 1)) = nmN a l ++ (docN i lp m ++ C) → nmN a (l ++ [(i, m)]) ++ C = nmN a l ++ (docN i lp m ++ C) := by
            intro l
            induction l with
            | nil =>
              intro a _ h2
              show docN i a m ++ [] ++ C = docN i lp m ++ C
              have h2 : docN i a m ++ nmN (i + 1) (pst.drop (k + 1)) = docN i lp m ++ C := h2
              rw [hC] at h2
              rw [List.append_nil]; exact h2
            | cons y l ihl =>
              intro a h1 h2
              have h2 : docN y.1 a y.2 ++ nmN (y.1 + 1) (l ++ (i, m) :: pst.drop (k + 1)) = docN y.1 a y.2 ++ nmN (y.1 + 1) l ++ (docN i lp m ++ C) := h2
              rw [List.append_assoc] at h2
              have h3 := ihl (y.1 + 1) h1.2 (List.append_cancel_left h2)
              show docN y.1 a y.2 ++ nmN (y.1 + 1) (l ++ [(i, m)]) ++ C = docN y.1 a y.2 ++ nmN (y.1 + 1) l ++ (docN i lp m ++ C)
              rw [List.append_assoc, h3, List.append_assoc]
          have e0 : pst.take k ++ (i, m) :: pst.drop (k + 1) = pst := by rw [← hdr, List.take_append_drop]
          have := this (pst.take k) 0 (by rw [e0]; exact hok) (by rw [e0, hA]; exact hnm)
          rw [this, hA]; exact hnm
        · have el : (nmN 0 (pst.take (k + 1))).length = A.length + (2 + pcN m 20) := by
            rw [htk, ← hA]
            have : ∀ (l : List (Nat × Nat)) (a : Nat), (nmN a (l ++ [(i, m)])).length = (nmN a l).length + (2 + pcN m 20) := by
              intro l
              induction l with
              | nil =>
                intro a
                show (docN i a m ++ []).length = 0 + _
                rw [List.append_nil]
                show (gpL m 20).1.length + 1 + 1 = _
                rw [gl20]; omega
              | cons y l ihl =>
                intro a
                show (docN y.1 a y.2 ++ nmN (y.1 + 1) (l ++ [(i, m)])).length = (docN y.1 a y.2 ++ nmN (y.1 + 1) l).length + _
                rw [List.length_append, List.length_append, ihl]; omega
            exact this _ _
          rw [el]
          exact rdI_eq rr (fun y _ => hi_SI e10 rfl)
        · rw [hI_SI_e e10 rfl, I'', htk]
          unfold spR
          rw [List.foldl_append]
          show upR (cI S' b) i _ y = nI (upR (spR (pst.take k) R) i (spR (pst.take k) R i ||| m) y)
          by_cases c : y = i
          · rw [c, upR_s, upR_s]; rfl
          · rw [upR_n c, upR_n c]; exact hRow y hy
      · obtain ⟨r, hqr, hr20, hrt, hpr⟩ := pcN_next (m := m) (k := q) (n := 20) (by omega) hq20
        have hnone : ∀ y, q ≤ y → y < r → m.testBit y = false := by
          obtain ⟨d, rfl⟩ : ∃ d, r = q + d := ⟨r - q, by omega⟩
          exact pcN_none hpr.symm
        have hgr : gpL m r = gpL m q := by
          obtain ⟨d, rfl⟩ : ∃ d, r = q + d := ⟨r - q, by omega⟩
          exact gpL_none hnone
        have hgs : gpL m (r + 1) = ((gpL m q).1 ++ [r - q], r + 1) := by rw [gpL, if_pos hrt, hgr, hgq]
        have hgj : (gpL m 20).1[j]? = some (r - q) := by
          obtain ⟨t, ht⟩ := gpL_pre m (r + 1) (20 - (r + 1))
          rw [show r + 1 + (20 - (r + 1)) = 20 by omega, hgs] at ht
          rw [ht]
          refine get_pre ?_
          have : (gpL m q).1.length = j := by rw [gpL_len, hpq]
          rw [← this]
          exact app1_get.mpr (Or.inr ⟨rfl, rfl⟩)
        have hdj : (docN i lp m)[2 + j]? = some (r - q) := by
          rw [show 2 + j = j + 1 + 1 by omega]
          exact hgj
        refine ⟨hb''.1, q_nextNumber hb'' rr (hget hdj) h128 hlenN (fun S11 v11 r11 => ?_)⟩
        rw [nI_add]
        have ed : nM q + nI (r - q + 1) = nI r := by
          have : nI (r - q + 1) = nI (r + 1) - nI q := by rw [pk_sub (by omega)]; congr 1; omega
          rw [this, ← nI_add]
          unfold nM
          grind
        rw [ed]
        rintro _ rfl
        rw [nI_shl1 (by omega), nI_or]
        rintro _ rfl _ rfl
        rw [nI_add]
        refine ih2 _ hjl ⟨S11, r + 1, pRd_tr w v11, by omega, by rw [hgs], ?_, r11, ?_⟩
        · show pcN m r + (if m.testBit r = true then 1 else 0) = j + 1
          rw [if_pos hrt, hpr, hpq]
        · rw [nM_s, mod_succ hrt, mod_none hqr hnone]
    · obtain rfl : k = pst.length := by omega
      rw [List.take_length] at hRow
      exact h S' v hRow
  · rw [sub_cI v2.1 bA (Ne.symm npb)]
    exact hR i hi
end SP2
