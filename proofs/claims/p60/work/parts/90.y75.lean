/-! the class: passages -/
def orP : List Nat → Nat
  | [] => 0
  | p :: l => 63 * 2 ^ p ||| orP l
theorem orP_app {p : Nat} : ∀ l : List Nat, orP (l ++ [p]) = orP l ||| 63 * 2 ^ p
  | [] => by
    show (_ ||| 0) = (0 ||| _)
    rw [Nat.or_zero, Nat.zero_or]
  | q :: l => by
    show (_ ||| orP (l ++ [p])) = ((_ ||| orP l) ||| _)
    rw [orP_app l, Nat.or_assoc]
theorem orP_lt : ∀ {l : List Nat}, (∀ p, p ∈ l → p < 20) → orP l < 2 ^ 26
  | [], _ => by rw [orP]; decide
  | p :: l, h => by
    rw [orP]
    refine Nat.or_lt_two_pow ?_ (orP_lt (fun q hq => h q (List.mem_cons_of_mem _ hq)))
    have hp := h p List.mem_cons_self
    have : 63 * 2 ^ p ≤ 63 * 2 ^ 19 := Nat.mul_le_mul_left 63 (Nat.pow_le_pow_right (by decide) (by omega))
    omega
/-- a leaf's marked places, or all of them -/
def sI (o : Option Nat) : Int32 := match o with
  | none => -1
  | some m => nI m
def cvI (sp : Nat → Option Nat) (P i : Nat) : Bool := match sp i with
  | none => !(P == 0)
  | some m => !((m &&& P) == 0)
def cvB (sp : Nat → Option Nat) (P : Nat) : Bool := allB (cvI sp P) 24
/-- the first place from a on at which g tells something -/
def fpL (g : Nat → Option (List Nat)) (mk : Nat) : Nat → Nat → Option (List Nat)
  | 0, _ => none
  | k + 1, a => if mk.testBit a = true then (match g a with
    | some l => some l
    | none => fpL g mk k (a + 1)) else fpL g mk k (a + 1)
def frm (pre : List Nat) : Nat := if pre.length = 0 then 0 else pre.getD (pre.length - 1) 0 + 1
/-- the first choice of d places more that does -/
def fpN (sp : Nat → Option Nat) (mk : Nat) : Nat → List Nat → Option (List Nat)
  | 0, pre => if cvB sp (orP pre) = true then some pre else none
  | d + 1, pre => fpL (fun p => fpN sp mk d (pre ++ [p])) mk (20 - frm pre) (frm pre)
def psG (sp : Nat → Option Nat) (mk : Nat) : Nat → Nat → List Nat
  | 0, _ => []
  | r + 1, c => match fpN sp mk c [] with
    | some l => l
    | none => psG sp mk r (c + 1)
/-- the passages -/
def psL (sp : Nat → Option Nat) (mk : Nat) : List Nat := if mk = 0 then [] else psG sp mk 4 1
theorem fpL_len {g : Nat → Option (List Nat)} {mk n : Nat} (h : ∀ a l, g a = some l → l.length = n) : ∀ {k a : Nat} {l : List Nat}, fpL g mk k a = some l → l.length = n
  | 0, a, l, e => absurd e (by rw [fpL]; simp)
  | k + 1, a, l, e => by
    rw [fpL] at e
    by_cases c : mk.testBit a = true
    · rw [if_pos c] at e
      cases c2 : g a with
      | none => rw [c2] at e; exact fpL_len h e
      | some l' =>
        rw [c2] at e
        have := Option.some.inj (show some l' = some l from e)
        rw [← this]; exact h a l' c2
    · rw [if_neg c] at e; exact fpL_len h e
theorem fpN_len {sp : Nat → Option Nat} {mk : Nat} : ∀ {d : Nat} {pre l : List Nat}, fpN sp mk d pre = some l → l.length = pre.length + d
  | 0, pre, l, e => by
    rw [fpN] at e
    split at e
    · rw [← Option.some.inj e]; rfl
    · exact absurd e (by simp)
  | d + 1, pre, l, e => by
    rw [fpN] at e
    refine (fpL_len (n := pre.length + (d + 1)) (fun a l' h => ?_) e)
    rw [fpN_len h, List.length_append]
    show pre.length + 1 + d = _
    omega
theorem m1_and {P : Nat} (h : P < 2 ^ 31) : (-1 : Int32) &&& nI P = nI P := by
  rw [show (-1 : Int32) = nI (2 ^ 32 - 1) from by decide, nI_and]
  congr 1
  rw [Nat.and_comm, Nat.and_two_pow_sub_one_eq_mod]
  exact Nat.mod_eq_of_lt (by omega)
section PS
variable {S T U : cS} {dp so' st' : Nat} {sp : Nat → Option Nat}
/-- whether all spots are in the passages -/
theorem q_areSpotsIn {Q : Int32 → cS → Prop} {pre : List Nat} (sA : cA S so' 14) (sn : cn S so' = 24) (hs : ∀ i, i < 24 → cI S so' i = sI (sp i) ∧ (sp i).getD 0 < 2 ^ 20) (tA : cA S st' 14) (tn : cn S st' = 4) (hl : pre.length ≤ 4) (hp : ∀ p, p ∈ pre → p < 20) (ht : ∀ i, i < pre.length → cI S st' i = nI (pre.getD i 0)) (h : Q (bI (cvB sp (orP pre))) S) : k_X1_areSpotsIn Q dp so' st' (nI pre.length) S := by
  have getM : ∀ {i : Nat}, i < pre.length → pre.getD i 0 < 20 := fun hi => hp _ (List.mem_of_getElem? (gq_get hi))
  have second : k_X1_areSpotsIn_34 Q dp so' (nI (orP pre)) S := by
    have pl := orP_lt hp
    unfold k_X1_areSpotsIn_34 k_X1_areSpotsIn_37L
    refine lfp_cnt 24 (fun k y => allB (cvI sp (orP pre)) k = true ∧ y = (so', nI (orP pre), nI k, S)) ?_ ⟨rfl, rfl⟩
    rintro P k _ hk ⟨ha, rfl⟩ ih
    show k_X1_areSpotsIn_37 Q dp _ so' (nI (orP pre)) (nI k) S
    unfold k_X1_areSpotsIn_37
    rw [sn]
    refine ⟨sA, pk_le 24 k (fun z => ?_) (fun z => ⟨cX_mk sA sn (by decide) z rfl, ?_⟩)⟩
    · obtain rfl : k = 24 := by omega
      rw [show cvB sp (orP pre) = true from ha] at h; exact h
    obtain ⟨h1, h2⟩ := hs k z
    rw [nI_clamp (show k < 2 ^ 31 by omega), h1]
    have go : ∀ x, x = nI (match sp k with | none => orP pre | some m => m &&& orP pre) → (¬ x = 0 → ∀ x4_1 : Int32, x4_1 = nI k + nI 1 → (fun b0 b1 b2 S => P (b0, b1, b2, S)) so' (nI (orP pre)) x4_1 S) ∧ (x = 0 → Q (bI false) S) := by
      rintro _ rfl
      have bd : (match sp k with | none => orP pre | some m => m &&& orP pre) < 2 ^ 31 := by
        cases sp k with
        | none => show orP pre < _; omega
        | some m => exact Nat.lt_of_le_of_lt Nat.and_le_right (by omega)
      refine w_nz (match sp k with | none => orP pre | some m => m &&& orP pre) (fun c => ?_) (fun c => ?_)
      · rintro _ rfl
        rw [nI_add]
        refine ih _ z ⟨allB_iff.mpr (fun i hi => ?_), rfl⟩
        by_cases e : i = k
        · subst e
          unfold cvI
          cases e2 : sp i with
          | none => rw [e2] at c; show (!(orP pre == 0)) = true; rw [show (orP pre == 0) = false from beq_eq_false_iff_ne.mpr (by have : 0 < orP pre := c; omega)]; rfl
          | some m => rw [e2] at c; show (!((m &&& orP pre) == 0)) = true; rw [show ((m &&& orP pre) == 0) = false from beq_eq_false_iff_ne.mpr (by have : 0 < m &&& orP pre := c; omega)]; rfl
        · exact allB_iff.mp ha i (by omega)
      · have : cvB sp (orP pre) = false := by
          refine allB_f z ?_
          unfold cvI
          cases e2 : sp k with
          | none => rw [e2] at c; show (!(orP pre == 0)) = false; rw [show (orP pre == 0) = true from beq_iff_eq.mpr c]; rfl
          | some m => rw [e2] at c; show (!((m &&& orP pre) == 0)) = false; rw [show ((m &&& orP pre) == 0) = true from beq_iff_eq.mpr c]; rfl
        rw [this] at h; exact h
    cases e : sp k with
    | none => rw [e] at go; exact go _ (by show (-1 : Int32) &&& _ = _; exact m1_and (by omega))
    | some m => rw [e] at go; exact go _ (by show nI m &&& _ = _; exact nI_and _ _)
  unfold k_X1_areSpotsIn k_X1_areSpotsIn_5L
  refine lfp_cnt pre.length (fun k y => y = (so', st', nI pre.length, nI (orP (pre.take k)), nI k, S)) ?_ rfl
  rintro P k _ hk rfl ih
  show k_X1_areSpotsIn_5 Q dp _ so' st' (nI pre.length) (nI (orP (pre.take k))) (nI k) S
  unfold k_X1_areSpotsIn_5
  refine pk_le pre.length k (fun z => ?_) (fun z => ⟨tA, ?_⟩)
  · obtain rfl : k = pre.length := by omega
    rw [List.take_length]; exact second
  rw [tn]
  refine pk_le 4 k (fun z2 => absurd z2 (by omega)) (fun z2 => ⟨cX_mk tA tn (by decide) z2 rfl, ?_⟩)
  have h20 := getM z
  have b63 : 63 * 2 ^ pre.getD k 0 ≤ 63 * 2 ^ 19 := Nat.mul_le_mul_left 63 (Nat.pow_le_pow_right (by decide) (by omega))
  rw [nI_clamp (show k < 2 ^ 31 by omega), ht k z, nI_shl (by omega) (by omega), nI_or]
  rintro _ rfl _ rfl
  rw [nI_add]
  refine ih _ z ?_
  rw [List.take_add_one, gq_get z]
  show _ = (so', st', nI pre.length, nI (orP (pre.take k ++ [pre.getD k 0])), nI (k + 1), S)
  rw [orP_app]
theorem frm_le {pre : List Nat} (hp : ∀ p, p ∈ pre → p < 20) : frm pre ≤ 20 := by
  unfold frm
  by_cases c : pre.length = 0
  · rw [if_pos c]; decide
  · rw [if_neg c]
    have := hp _ (List.mem_of_getElem? (gq_get (show pre.length - 1 < pre.length by omega)))
    omega
theorem gqD_app {pre : List Nat} {a i : Nat} (h : i ≤ pre.length) : (pre ++ [a]).getD i 0 = if i = pre.length then a else pre.getD i 0 := by
  rw [List.getD_eq_getElem?_getD, List.getD_eq_getElem?_getD]
  by_cases c : i = pre.length
  · rw [if_pos c, app1_get.mpr (Or.inr ⟨c, rfl⟩)]; rfl
  · rw [if_neg c, List.getElem?_append_left (by omega)]
theorem q_cov0 {Q : Int32 → cS → Prop} {mk cnt : Nat} {pre : List Nat} (hk : cnt ≤ pre.length + 0) (hc : pre.length ≤ cnt ∧ cnt ≤ 4) (hm : mk < 2 ^ 20) (sA : cA S so' 14) (sn : cn S so' = 24) (hs : ∀ i, i < 24 → cI S so' i = sI (sp i) ∧ (sp i).getD 0 < 2 ^ 20) (tA : cA S st' 14) (tn : cn S st' = 4) (hne : ¬ so' = st') (hp : ∀ p, p ∈ pre → p < 20) (ht : ∀ i, i < pre.length → cI S st' i = nI (pre.getD i 0)) (h : ∀ T, cSub S T (fun z => z = st') → (∀ i, i < pre.length → cI T st' i = nI (pre.getD i 0)) → (∀ l, fpN sp mk (cnt - pre.length) pre = some l → ∀ i, i < cnt → cI T st' i = nI (l.getD i 0)) → Q (bI (fpN sp mk (cnt - pre.length) pre).isSome) T) : k_X1_isCovered_v0 Q dp so' st' (nI mk) (nI pre.length) (nI cnt) S := by
  have all : cnt = pre.length → k_X1_isCovered_v0_16 Q dp so' st' (nI cnt) S := by
    intro e
    unfold k_X1_isCovered_v0_16
    rw [e]
    refine q_areSpotsIn sA sn hs tA tn (by omega) hp ht ⟨⟨_, rfl⟩, ?_⟩
    have hh := h S sub_rf ht
    rw [show cnt - pre.length = 0 by omega, fpN] at hh
    by_cases c : cvB sp (orP pre) = true
    · rw [if_pos c] at hh
      rw [c]
      exact hh (fun l hl i hi => by rw [← Option.some.inj hl]; exact ht i (by omega))
    · rw [if_neg c] at hh
      rw [Bool.eq_false_iff.mpr c]
      exact hh (fun l hl => absurd hl (by simp))
  unfold k_X1_isCovered_v0
  refine w_pos pre.length (pk_le cnt pre.length (fun z => all (by omega)) (fun z => ?_))
  exact absurd z (by omega)
theorem q_cov1 {Q : Int32 → cS → Prop} {mk cnt : Nat} {pre : List Nat} (hk : cnt ≤ pre.length + 1) (hc : pre.length ≤ cnt ∧ cnt ≤ 4) (hm : mk < 2 ^ 20) (sA : cA S so' 14) (sn : cn S so' = 24) (hs : ∀ i, i < 24 → cI S so' i = sI (sp i) ∧ (sp i).getD 0 < 2 ^ 20) (tA : cA S st' 14) (tn : cn S st' = 4) (hne : ¬ so' = st') (hp : ∀ p, p ∈ pre → p < 20) (ht : ∀ i, i < pre.length → cI S st' i = nI (pre.getD i 0)) (h : ∀ T, cSub S T (fun z => z = st') → (∀ i, i < pre.length → cI T st' i = nI (pre.getD i 0)) → (∀ l, fpN sp mk (cnt - pre.length) pre = some l → ∀ i, i < cnt → cI T st' i = nI (l.getD i 0)) → Q (bI (fpN sp mk (cnt - pre.length) pre).isSome) T) : k_X1_isCovered_v1 Q dp so' st' (nI mk) (nI pre.length) (nI cnt) S := by
  have all : cnt = pre.length → k_X1_isCovered_v1_16 Q dp so' st' (nI cnt) S := by
    intro e
    unfold k_X1_isCovered_v1_16
    rw [e]
    refine q_areSpotsIn sA sn hs tA tn (by omega) hp ht ⟨⟨_, rfl⟩, ?_⟩
    have hh := h S sub_rf ht
    rw [show cnt - pre.length = 0 by omega, fpN] at hh
    by_cases c : cvB sp (orP pre) = true
    · rw [if_pos c] at hh
      rw [c]
      exact hh (fun l hl i hi => by rw [← Option.some.inj hl]; exact ht i (by omega))
    · rw [if_neg c] at hh
      rw [Bool.eq_false_iff.mpr c]
      exact hh (fun l hl => absurd hl (by simp))
  unfold k_X1_isCovered_v1
  refine w_pos pre.length (pk_le cnt pre.length (fun z => all (by omega)) (fun z => ?_))
  have fl := frm_le hp
  obtain ⟨d, hd⟩ : ∃ d, cnt - pre.length = d + 1 := ⟨cnt - pre.length - 1, by omega⟩
  obtain ⟨g, hg⟩ : ∃ g : Nat → Option (List Nat), g = fun p => fpN sp mk d (pre ++ [p]) := ⟨_, rfl⟩
  have eN : fpN sp mk (cnt - pre.length) pre = fpL g mk (20 - frm pre) (frm pre) := by rw [hd, fpN, hg]
  rw [eN] at h
  have loop : k_X1_isCovered_v1_41L Q dp so' st' (nI mk) (nI pre.length) (nI cnt) (nI (frm pre)) S := by
    unfold k_X1_isCovered_v1_41L
    refine lfp_cnt (20 - frm pre) (fun i y => ∃ S', cSub S S' (fun z => z = st') ∧ (∀ i, i < pre.length → cI S' st' i = nI (pre.getD i 0)) ∧ fpL g mk (20 - frm pre) (frm pre) = fpL g mk (20 - frm pre - i) (frm pre + i) ∧ y = (so', st', nI mk, nI pre.length, nI cnt, nI (frm pre + i), S')) ?_ ⟨S, sub_rf, ht, rfl, rfl⟩
    rintro P i _ hi ⟨S', s', hc', hf, rfl⟩ ih
    show k_X1_isCovered_v1_41 Q dp _ so' st' (nI mk) (nI pre.length) (nI cnt) (nI (frm pre + i)) S'
    unfold k_X1_isCovered_v1_41
    refine pk_le 20 (frm pre + i) (fun z2 => ?_) (fun z2 => ?_)
    · have e0 : fpL g mk (20 - frm pre) (frm pre) = none := by rw [hf, show 20 - frm pre - i = 0 by omega, fpL]
      have hh := h S' s' hc'
      rw [e0] at hh
      exact hh (fun l hl => absurd hl (by simp))
    have es : fpL g mk (20 - frm pre - i) (frm pre + i) = if mk.testBit (frm pre + i) = true then (match g (frm pre + i) with
      | some l => some l
      | none => fpL g mk (20 - frm pre - (i + 1)) (frm pre + (i + 1))) else fpL g mk (20 - frm pre - (i + 1)) (frm pre + (i + 1)) := by
      rw [show 20 - frm pre - i = (20 - frm pre - (i + 1)) + 1 by omega, fpL, Nat.add_assoc]
    have next : ∀ {S2 : cS}, cSub S S2 (fun z => z = st') → (∀ i, i < pre.length → cI S2 st' i = nI (pre.getD i 0)) → fpL g mk (20 - frm pre) (frm pre) = fpL g mk (20 - frm pre - (i + 1)) (frm pre + (i + 1)) → k_X1_isCovered_v1_78 Q dp (fun b0 b1 b2 b3 b4 b5 S => P (b0, b1, b2, b3, b4, b5, S)) so' st' (nI mk) (nI pre.length) (nI cnt) (nI (frm pre + i)) S2 := by
      intro S2 s2 h2 e2
      unfold k_X1_isCovered_v1_78
      rintro _ rfl
      rw [nI_add]
      exact ih _ (by omega) ⟨S2, s2, h2, e2, rfl⟩
    rw [nI_bit (by omega) (by omega)]
    refine w_b0 (mk.testBit (frm pre + i)) (fun e => next s' hc' (by rw [hf, es, e, if_neg (by decide)])) (fun e => ?_)
    have t' := sub_A1 s' tA
    have tn' : cn S' st' = 4 := (sub_cn s' tA).trans tn
    refine ⟨cX_mk t' tn' (by decide) (show pre.length < 4 by omega) rfl, fun S3 e3 => ?_⟩
    rw [nI_clamp (show pre.length < 2 ^ 31 by omega)] at e3
    rw [nI_add]
    have s3 : cSub S' S3 (fun z => z = st') := e3 ▸ sub_SI rfl
    have ln : (pre ++ [frm pre + i]).length = pre.length + 1 := by rw [List.length_append]; rfl
    have s03 := sub_tr s' s3 (fun _ _ z => z)
    have e4 : fpN sp mk (cnt - (pre ++ [frm pre + i]).length) (pre ++ [frm pre + i]) = g (frm pre + i) := by rw [hg, ln, show cnt - (pre.length + 1) = d by omega]
    have cov := q_cov0 (S := S3) (dp := dp) (Q := fun r_4 S_4 => ((r_4 = 0 → k_X1_isCovered_v1_78 Q dp (fun b0 b1 b2 b3 b4 b5 S => P (b0, b1, b2, b3, b4, b5, S)) so' st' (nI mk) (nI pre.length) (nI cnt) (nI (frm pre + i)) S_4) ∧ (¬ r_4 = 0 → Q (bI true) S_4))) (so' := so') (st' := st') (sp := sp) (mk := mk) (cnt := cnt) (pre := pre ++ [frm pre + i]) (by rw [ln]; omega) ⟨by rw [ln]; omega, hc.2⟩ hm (sub_A1 s03 sA) ((sub_cn s03 sA).trans sn) (fun j hj => by rw [sub_cI s03 sA hne]; exact hs j hj) (sub_A1 s3 t') ((sub_cn s3 t').trans tn') hne (fun p hpp => ?_) (fun j hj => ?_) (fun T sT h1 h2 => ?_)
    · rw [ln] at cov
      exact cov
    · rcases List.mem_append.mp hpp with w | w
      · exact hp p w
      · rw [List.mem_singleton.mp w]; exact z2
    · rw [ln] at hj
      rw [gqD_app (by omega)]
      by_cases c : j = pre.length
      · subst c; rw [if_pos rfl]; exact heI_SI_s e3
      · rw [if_neg c]; exact heI_SI_k e3 c (hc' j (by omega))
    · rw [e4] at h2 ⊢
      have s0T := sub_tr s03 sT (fun _ _ z => z)
      have hpre : ∀ j, j < pre.length → cI T st' j = nI (pre.getD j 0) := fun j hj => by
        rw [h1 j (by rw [ln]; omega), gqD_app (by omega), if_neg (by omega)]
      cases e5 : g (frm pre + i) with
      | none => exact ⟨fun _ => next s0T hpre (by rw [hf, es, if_pos e, e5]), fun w => absurd rfl w⟩
      | some l =>
        have e6 : fpL g mk (20 - frm pre) (frm pre) = some l := by rw [hf, es, if_pos e, e5]
        refine ⟨fun w => absurd w (show ¬ bI true = 0 from by decide), fun _ => ?_⟩
        have hh := h T s0T hpre
        rw [e6] at hh
        exact hh (fun l' hl' => h2 l' (by rw [e5]; exact hl'))
  refine ⟨tA, ?_⟩
  rw [tn]
  refine pk_lt pre.length 4 (fun _ => w_nz pre.length (fun c => ?_) (fun c => ?_)) (fun z2 => absurd z2 (by omega))
  · rw [pk_sub (by omega)]
    refine ⟨cX_mk tA tn (by decide) (show pre.length - 1 < 4 by omega) rfl, ?_⟩
    rw [nI_clamp (show pre.length - 1 < 2 ^ 31 by omega), ht _ (by omega), nI_add, show pre.getD (pre.length - 1) 0 + 1 = frm pre by unfold frm; rw [if_neg (by omega)]]
    unfold k_X1_isCovered_v1_39
    exact loop
  · have : frm pre = 0 := by unfold frm; rw [if_pos c]
    rw [this] at loop
    unfold k_X1_isCovered_v1_39
    exact loop
theorem q_cov2 {Q : Int32 → cS → Prop} {mk cnt : Nat} {pre : List Nat} (hk : cnt ≤ pre.length + 2) (hc : pre.length ≤ cnt ∧ cnt ≤ 4) (hm : mk < 2 ^ 20) (sA : cA S so' 14) (sn : cn S so' = 24) (hs : ∀ i, i < 24 → cI S so' i = sI (sp i) ∧ (sp i).getD 0 < 2 ^ 20) (tA : cA S st' 14) (tn : cn S st' = 4) (hne : ¬ so' = st') (hp : ∀ p, p ∈ pre → p < 20) (ht : ∀ i, i < pre.length → cI S st' i = nI (pre.getD i 0)) (h : ∀ T, cSub S T (fun z => z = st') → (∀ i, i < pre.length → cI T st' i = nI (pre.getD i 0)) → (∀ l, fpN sp mk (cnt - pre.length) pre = some l → ∀ i, i < cnt → cI T st' i = nI (l.getD i 0)) → Q (bI (fpN sp mk (cnt - pre.length) pre).isSome) T) : k_X1_isCovered_v2 Q dp so' st' (nI mk) (nI pre.length) (nI cnt) S := by
  have all : cnt = pre.length → k_X1_isCovered_v2_16 Q dp so' st' (nI cnt) S := by
    intro e
    unfold k_X1_isCovered_v2_16
    rw [e]
    refine q_areSpotsIn sA sn hs tA tn (by omega) hp ht ⟨⟨_, rfl⟩, ?_⟩
    have hh := h S sub_rf ht
    rw [show cnt - pre.length = 0 by omega, fpN] at hh
    by_cases c : cvB sp (orP pre) = true
    · rw [if_pos c] at hh
      rw [c]
      exact hh (fun l hl i hi => by rw [← Option.some.inj hl]; exact ht i (by omega))
    · rw [if_neg c] at hh
      rw [Bool.eq_false_iff.mpr c]
      exact hh (fun l hl => absurd hl (by simp))
  unfold k_X1_isCovered_v2
  refine w_pos pre.length (pk_le cnt pre.length (fun z => all (by omega)) (fun z => ?_))
  have fl := frm_le hp
  obtain ⟨d, hd⟩ : ∃ d, cnt - pre.length = d + 1 := ⟨cnt - pre.length - 1, by omega⟩
  obtain ⟨g, hg⟩ : ∃ g : Nat → Option (List Nat), g = fun p => fpN sp mk d (pre ++ [p]) := ⟨_, rfl⟩
  have eN : fpN sp mk (cnt - pre.length) pre = fpL g mk (20 - frm pre) (frm pre) := by rw [hd, fpN, hg]
  rw [eN] at h
  have loop : k_X1_isCovered_v2_41L Q dp so' st' (nI mk) (nI pre.length) (nI cnt) (nI (frm pre)) S := by
    unfold k_X1_isCovered_v2_41L
    refine lfp_cnt (20 - frm pre) (fun i y => ∃ S', cSub S S' (fun z => z = st') ∧ (∀ i, i < pre.length → cI S' st' i = nI (pre.getD i 0)) ∧ fpL g mk (20 - frm pre) (frm pre) = fpL g mk (20 - frm pre - i) (frm pre + i) ∧ y = (so', st', nI mk, nI pre.length, nI cnt, nI (frm pre + i), S')) ?_ ⟨S, sub_rf, ht, rfl, rfl⟩
    rintro P i _ hi ⟨S', s', hc', hf, rfl⟩ ih
    show k_X1_isCovered_v2_41 Q dp _ so' st' (nI mk) (nI pre.length) (nI cnt) (nI (frm pre + i)) S'
    unfold k_X1_isCovered_v2_41
    refine pk_le 20 (frm pre + i) (fun z2 => ?_) (fun z2 => ?_)
    · have e0 : fpL g mk (20 - frm pre) (frm pre) = none := by rw [hf, show 20 - frm pre - i = 0 by omega, fpL]
      have hh := h S' s' hc'
      rw [e0] at hh
      exact hh (fun l hl => absurd hl (by simp))
    have es : fpL g mk (20 - frm pre - i) (frm pre + i) = if mk.testBit (frm pre + i) = true then (match g (frm pre + i) with
      | some l => some l
      | none => fpL g mk (20 - frm pre - (i + 1)) (frm pre + (i + 1))) else fpL g mk (20 - frm pre - (i + 1)) (frm pre + (i + 1)) := by
      rw [show 20 - frm pre - i = (20 - frm pre - (i + 1)) + 1 by omega, fpL, Nat.add_assoc]
    have next : ∀ {S2 : cS}, cSub S S2 (fun z => z = st') → (∀ i, i < pre.length → cI S2 st' i = nI (pre.getD i 0)) → fpL g mk (20 - frm pre) (frm pre) = fpL g mk (20 - frm pre - (i + 1)) (frm pre + (i + 1)) → k_X1_isCovered_v2_78 Q dp (fun b0 b1 b2 b3 b4 b5 S => P (b0, b1, b2, b3, b4, b5, S)) so' st' (nI mk) (nI pre.length) (nI cnt) (nI (frm pre + i)) S2 := by
      intro S2 s2 h2 e2
      unfold k_X1_isCovered_v2_78
      rintro _ rfl
      rw [nI_add]
      exact ih _ (by omega) ⟨S2, s2, h2, e2, rfl⟩
    rw [nI_bit (by omega) (by omega)]
    refine w_b0 (mk.testBit (frm pre + i)) (fun e => next s' hc' (by rw [hf, es, e, if_neg (by decide)])) (fun e => ?_)
    have t' := sub_A1 s' tA
    have tn' : cn S' st' = 4 := (sub_cn s' tA).trans tn
    refine ⟨cX_mk t' tn' (by decide) (show pre.length < 4 by omega) rfl, fun S3 e3 => ?_⟩
    rw [nI_clamp (show pre.length < 2 ^ 31 by omega)] at e3
    rw [nI_add]
    have s3 : cSub S' S3 (fun z => z = st') := e3 ▸ sub_SI rfl
    have ln : (pre ++ [frm pre + i]).length = pre.length + 1 := by rw [List.length_append]; rfl
    have s03 := sub_tr s' s3 (fun _ _ z => z)
    have e4 : fpN sp mk (cnt - (pre ++ [frm pre + i]).length) (pre ++ [frm pre + i]) = g (frm pre + i) := by rw [hg, ln, show cnt - (pre.length + 1) = d by omega]
    have cov := q_cov1 (S := S3) (dp := dp) (Q := fun r_4 S_4 => ((r_4 = 0 → k_X1_isCovered_v2_78 Q dp (fun b0 b1 b2 b3 b4 b5 S => P (b0, b1, b2, b3, b4, b5, S)) so' st' (nI mk) (nI pre.length) (nI cnt) (nI (frm pre + i)) S_4) ∧ (¬ r_4 = 0 → Q (bI true) S_4))) (so' := so') (st' := st') (sp := sp) (mk := mk) (cnt := cnt) (pre := pre ++ [frm pre + i]) (by rw [ln]; omega) ⟨by rw [ln]; omega, hc.2⟩ hm (sub_A1 s03 sA) ((sub_cn s03 sA).trans sn) (fun j hj => by rw [sub_cI s03 sA hne]; exact hs j hj) (sub_A1 s3 t') ((sub_cn s3 t').trans tn') hne (fun p hpp => ?_) (fun j hj => ?_) (fun T sT h1 h2 => ?_)
    · rw [ln] at cov
      exact cov
    · rcases List.mem_append.mp hpp with w | w
      · exact hp p w
      · rw [List.mem_singleton.mp w]; exact z2
    · rw [ln] at hj
      rw [gqD_app (by omega)]
      by_cases c : j = pre.length
      · subst c; rw [if_pos rfl]; exact heI_SI_s e3
      · rw [if_neg c]; exact heI_SI_k e3 c (hc' j (by omega))
    · rw [e4] at h2 ⊢
      have s0T := sub_tr s03 sT (fun _ _ z => z)
      have hpre : ∀ j, j < pre.length → cI T st' j = nI (pre.getD j 0) := fun j hj => by
        rw [h1 j (by rw [ln]; omega), gqD_app (by omega), if_neg (by omega)]
      cases e5 : g (frm pre + i) with
      | none => exact ⟨fun _ => next s0T hpre (by rw [hf, es, if_pos e, e5]), fun w => absurd rfl w⟩
      | some l =>
        have e6 : fpL g mk (20 - frm pre) (frm pre) = some l := by rw [hf, es, if_pos e, e5]
        refine ⟨fun w => absurd w (show ¬ bI true = 0 from by decide), fun _ => ?_⟩
        have hh := h T s0T hpre
        rw [e6] at hh
        exact hh (fun l' hl' => h2 l' (by rw [e5]; exact hl'))
  refine ⟨tA, ?_⟩
  rw [tn]
  refine pk_lt pre.length 4 (fun _ => w_nz pre.length (fun c => ?_) (fun c => ?_)) (fun z2 => absurd z2 (by omega))
  · rw [pk_sub (by omega)]
    refine ⟨cX_mk tA tn (by decide) (show pre.length - 1 < 4 by omega) rfl, ?_⟩
    rw [nI_clamp (show pre.length - 1 < 2 ^ 31 by omega), ht _ (by omega), nI_add, show pre.getD (pre.length - 1) 0 + 1 = frm pre by unfold frm; rw [if_neg (by omega)]]
    unfold k_X1_isCovered_v2_39
    exact loop
  · have : frm pre = 0 := by unfold frm; rw [if_pos c]
    rw [this] at loop
    unfold k_X1_isCovered_v2_39
    exact loop
theorem q_cov3 {Q : Int32 → cS → Prop} {mk cnt : Nat} {pre : List Nat} (hk : cnt ≤ pre.length + 3) (hc : pre.length ≤ cnt ∧ cnt ≤ 4) (hm : mk < 2 ^ 20) (sA : cA S so' 14) (sn : cn S so' = 24) (hs : ∀ i, i < 24 → cI S so' i = sI (sp i) ∧ (sp i).getD 0 < 2 ^ 20) (tA : cA S st' 14) (tn : cn S st' = 4) (hne : ¬ so' = st') (hp : ∀ p, p ∈ pre → p < 20) (ht : ∀ i, i < pre.length → cI S st' i = nI (pre.getD i 0)) (h : ∀ T, cSub S T (fun z => z = st') → (∀ i, i < pre.length → cI T st' i = nI (pre.getD i 0)) → (∀ l, fpN sp mk (cnt - pre.length) pre = some l → ∀ i, i < cnt → cI T st' i = nI (l.getD i 0)) → Q (bI (fpN sp mk (cnt - pre.length) pre).isSome) T) : k_X1_isCovered_v3 Q dp so' st' (nI mk) (nI pre.length) (nI cnt) S := by
  have all : cnt = pre.length → k_X1_isCovered_v3_16 Q dp so' st' (nI cnt) S := by
    intro e
    unfold k_X1_isCovered_v3_16
    rw [e]
    refine q_areSpotsIn sA sn hs tA tn (by omega) hp ht ⟨⟨_, rfl⟩, ?_⟩
    have hh := h S sub_rf ht
    rw [show cnt - pre.length = 0 by omega, fpN] at hh
    by_cases c : cvB sp (orP pre) = true
    · rw [if_pos c] at hh
      rw [c]
      exact hh (fun l hl i hi => by rw [← Option.some.inj hl]; exact ht i (by omega))
    · rw [if_neg c] at hh
      rw [Bool.eq_false_iff.mpr c]
      exact hh (fun l hl => absurd hl (by simp))
  unfold k_X1_isCovered_v3
  refine w_pos pre.length (pk_le cnt pre.length (fun z => all (by omega)) (fun z => ?_))
  have fl := frm_le hp
  obtain ⟨d, hd⟩ : ∃ d, cnt - pre.length = d + 1 := ⟨cnt - pre.length - 1, by omega⟩
  obtain ⟨g, hg⟩ : ∃ g : Nat → Option (List Nat), g = fun p => fpN sp mk d (pre ++ [p]) := ⟨_, rfl⟩
  have eN : fpN sp mk (cnt - pre.length) pre = fpL g mk (20 - frm pre) (frm pre) := by rw [hd, fpN, hg]
  rw [eN] at h
  have loop : k_X1_isCovered_v3_41L Q dp so' st' (nI mk) (nI pre.length) (nI cnt) (nI (frm pre)) S := by
    unfold k_X1_isCovered_v3_41L
    refine lfp_cnt (20 - frm pre) (fun i y => ∃ S', cSub S S' (fun z => z = st') ∧ (∀ i, i < pre.length → cI S' st' i = nI (pre.getD i 0)) ∧ fpL g mk (20 - frm pre) (frm pre) = fpL g mk (20 - frm pre - i) (frm pre + i) ∧ y = (so', st', nI mk, nI pre.length, nI cnt, nI (frm pre + i), S')) ?_ ⟨S, sub_rf, ht, rfl, rfl⟩
    rintro P i _ hi ⟨S', s', hc', hf, rfl⟩ ih
    show k_X1_isCovered_v3_41 Q dp _ so' st' (nI mk) (nI pre.length) (nI cnt) (nI (frm pre + i)) S'
    unfold k_X1_isCovered_v3_41
    refine pk_le 20 (frm pre + i) (fun z2 => ?_) (fun z2 => ?_)
    · have e0 : fpL g mk (20 - frm pre) (frm pre) = none := by rw [hf, show 20 - frm pre - i = 0 by omega, fpL]
      have hh := h S' s' hc'
      rw [e0] at hh
      exact hh (fun l hl => absurd hl (by simp))
    have es : fpL g mk (20 - frm pre - i) (frm pre + i) = if mk.testBit (frm pre + i) = true then (match g (frm pre + i) with
      | some l => some l
      | none => fpL g mk (20 - frm pre - (i + 1)) (frm pre + (i + 1))) else fpL g mk (20 - frm pre - (i + 1)) (frm pre + (i + 1)) := by
      rw [show 20 - frm pre - i = (20 - frm pre - (i + 1)) + 1 by omega, fpL, Nat.add_assoc]
    have next : ∀ {S2 : cS}, cSub S S2 (fun z => z = st') → (∀ i, i < pre.length → cI S2 st' i = nI (pre.getD i 0)) → fpL g mk (20 - frm pre) (frm pre) = fpL g mk (20 - frm pre - (i + 1)) (frm pre + (i + 1)) → k_X1_isCovered_v3_78 Q dp (fun b0 b1 b2 b3 b4 b5 S => P (b0, b1, b2, b3, b4, b5, S)) so' st' (nI mk) (nI pre.length) (nI cnt) (nI (frm pre + i)) S2 := by
      intro S2 s2 h2 e2
      unfold k_X1_isCovered_v3_78
      rintro _ rfl
      rw [nI_add]
      exact ih _ (by omega) ⟨S2, s2, h2, e2, rfl⟩
    rw [nI_bit (by omega) (by omega)]
    refine w_b0 (mk.testBit (frm pre + i)) (fun e => next s' hc' (by rw [hf, es, e, if_neg (by decide)])) (fun e => ?_)
    have t' := sub_A1 s' tA
    have tn' : cn S' st' = 4 := (sub_cn s' tA).trans tn
    refine ⟨cX_mk t' tn' (by decide) (show pre.length < 4 by omega) rfl, fun S3 e3 => ?_⟩
    rw [nI_clamp (show pre.length < 2 ^ 31 by omega)] at e3
    rw [nI_add]
    have s3 : cSub S' S3 (fun z => z = st') := e3 ▸ sub_SI rfl
    have ln : (pre ++ [frm pre + i]).length = pre.length + 1 := by rw [List.length_append]; rfl
    have s03 := sub_tr s' s3 (fun _ _ z => z)
    have e4 : fpN sp mk (cnt - (pre ++ [frm pre + i]).length) (pre ++ [frm pre + i]) = g (frm pre + i) := by rw [hg, ln, show cnt - (pre.length + 1) = d by omega]
    have cov := q_cov2 (S := S3) (dp := dp) (Q := fun r_4 S_4 => ((r_4 = 0 → k_X1_isCovered_v3_78 Q dp (fun b0 b1 b2 b3 b4 b5 S => P (b0, b1, b2, b3, b4, b5, S)) so' st' (nI mk) (nI pre.length) (nI cnt) (nI (frm pre + i)) S_4) ∧ (¬ r_4 = 0 → Q (bI true) S_4))) (so' := so') (st' := st') (sp := sp) (mk := mk) (cnt := cnt) (pre := pre ++ [frm pre + i]) (by rw [ln]; omega) ⟨by rw [ln]; omega, hc.2⟩ hm (sub_A1 s03 sA) ((sub_cn s03 sA).trans sn) (fun j hj => by rw [sub_cI s03 sA hne]; exact hs j hj) (sub_A1 s3 t') ((sub_cn s3 t').trans tn') hne (fun p hpp => ?_) (fun j hj => ?_) (fun T sT h1 h2 => ?_)
    · rw [ln] at cov
      exact cov
    · rcases List.mem_append.mp hpp with w | w
      · exact hp p w
      · rw [List.mem_singleton.mp w]; exact z2
    · rw [ln] at hj
      rw [gqD_app (by omega)]
      by_cases c : j = pre.length
      · subst c; rw [if_pos rfl]; exact heI_SI_s e3
      · rw [if_neg c]; exact heI_SI_k e3 c (hc' j (by omega))
    · rw [e4] at h2 ⊢
      have s0T := sub_tr s03 sT (fun _ _ z => z)
      have hpre : ∀ j, j < pre.length → cI T st' j = nI (pre.getD j 0) := fun j hj => by
        rw [h1 j (by rw [ln]; omega), gqD_app (by omega), if_neg (by omega)]
      cases e5 : g (frm pre + i) with
      | none => exact ⟨fun _ => next s0T hpre (by rw [hf, es, if_pos e, e5]), fun w => absurd rfl w⟩
      | some l =>
        have e6 : fpL g mk (20 - frm pre) (frm pre) = some l := by rw [hf, es, if_pos e, e5]
        refine ⟨fun w => absurd w (show ¬ bI true = 0 from by decide), fun _ => ?_⟩
        have hh := h T s0T hpre
        rw [e6] at hh
        exact hh (fun l' hl' => h2 l' (by rw [e5]; exact hl'))
  refine ⟨tA, ?_⟩
  rw [tn]
  refine pk_lt pre.length 4 (fun _ => w_nz pre.length (fun c => ?_) (fun c => ?_)) (fun z2 => absurd z2 (by omega))
  · rw [pk_sub (by omega)]
    refine ⟨cX_mk tA tn (by decide) (show pre.length - 1 < 4 by omega) rfl, ?_⟩
    rw [nI_clamp (show pre.length - 1 < 2 ^ 31 by omega), ht _ (by omega), nI_add, show pre.getD (pre.length - 1) 0 + 1 = frm pre by unfold frm; rw [if_neg (by omega)]]
    unfold k_X1_isCovered_v3_39
    exact loop
  · have : frm pre = 0 := by unfold frm; rw [if_pos c]
    rw [this] at loop
    unfold k_X1_isCovered_v3_39
    exact loop
theorem q_cov4 {Q : Int32 → cS → Prop} {mk cnt : Nat} {pre : List Nat} (hk : cnt ≤ pre.length + 4) (hc : pre.length ≤ cnt ∧ cnt ≤ 4) (hm : mk < 2 ^ 20) (sA : cA S so' 14) (sn : cn S so' = 24) (hs : ∀ i, i < 24 → cI S so' i = sI (sp i) ∧ (sp i).getD 0 < 2 ^ 20) (tA : cA S st' 14) (tn : cn S st' = 4) (hne : ¬ so' = st') (hp : ∀ p, p ∈ pre → p < 20) (ht : ∀ i, i < pre.length → cI S st' i = nI (pre.getD i 0)) (h : ∀ T, cSub S T (fun z => z = st') → (∀ i, i < pre.length → cI T st' i = nI (pre.getD i 0)) → (∀ l, fpN sp mk (cnt - pre.length) pre = some l → ∀ i, i < cnt → cI T st' i = nI (l.getD i 0)) → Q (bI (fpN sp mk (cnt - pre.length) pre).isSome) T) : k_X1_isCovered_v4 Q dp so' st' (nI mk) (nI pre.length) (nI cnt) S := by
  have all : cnt = pre.length → k_X1_isCovered_v4_16 Q dp so' st' (nI cnt) S := by
    intro e
    unfold k_X1_isCovered_v4_16
    rw [e]
    refine q_areSpotsIn sA sn hs tA tn (by omega) hp ht ⟨⟨_, rfl⟩, ?_⟩
    have hh := h S sub_rf ht
    rw [show cnt - pre.length = 0 by omega, fpN] at hh
    by_cases c : cvB sp (orP pre) = true
    · rw [if_pos c] at hh
      rw [c]
      exact hh (fun l hl i hi => by rw [← Option.some.inj hl]; exact ht i (by omega))
    · rw [if_neg c] at hh
      rw [Bool.eq_false_iff.mpr c]
      exact hh (fun l hl => absurd hl (by simp))
  unfold k_X1_isCovered_v4
  refine w_pos pre.length (pk_le cnt pre.length (fun z => all (by omega)) (fun z => ?_))
  have fl := frm_le hp
  obtain ⟨d, hd⟩ : ∃ d, cnt - pre.length = d + 1 := ⟨cnt - pre.length - 1, by omega⟩
  obtain ⟨g, hg⟩ : ∃ g : Nat → Option (List Nat), g = fun p => fpN sp mk d (pre ++ [p]) := ⟨_, rfl⟩
  have eN : fpN sp mk (cnt - pre.length) pre = fpL g mk (20 - frm pre) (frm pre) := by rw [hd, fpN, hg]
  rw [eN] at h
  have loop : k_X1_isCovered_v4_41L Q dp so' st' (nI mk) (nI pre.length) (nI cnt) (nI (frm pre)) S := by
    unfold k_X1_isCovered_v4_41L
    refine lfp_cnt (20 - frm pre) (fun i y => ∃ S', cSub S S' (fun z => z = st') ∧ (∀ i, i < pre.length → cI S' st' i = nI (pre.getD i 0)) ∧ fpL g mk (20 - frm pre) (frm pre) = fpL g mk (20 - frm pre - i) (frm pre + i) ∧ y = (so', st', nI mk, nI pre.length, nI cnt, nI (frm pre + i), S')) ?_ ⟨S, sub_rf, ht, rfl, rfl⟩
    rintro P i _ hi ⟨S', s', hc', hf, rfl⟩ ih
    show k_X1_isCovered_v4_41 Q dp _ so' st' (nI mk) (nI pre.length) (nI cnt) (nI (frm pre + i)) S'
    unfold k_X1_isCovered_v4_41
    refine pk_le 20 (frm pre + i) (fun z2 => ?_) (fun z2 => ?_)
    · have e0 : fpL g mk (20 - frm pre) (frm pre) = none := by rw [hf, show 20 - frm pre - i = 0 by omega, fpL]
      have hh := h S' s' hc'
      rw [e0] at hh
      exact hh (fun l hl => absurd hl (by simp))
    have es : fpL g mk (20 - frm pre - i) (frm pre + i) = if mk.testBit (frm pre + i) = true then (match g (frm pre + i) with
      | some l => some l
      | none => fpL g mk (20 - frm pre - (i + 1)) (frm pre + (i + 1))) else fpL g mk (20 - frm pre - (i + 1)) (frm pre + (i + 1)) := by
      rw [show 20 - frm pre - i = (20 - frm pre - (i + 1)) + 1 by omega, fpL, Nat.add_assoc]
    have next : ∀ {S2 : cS}, cSub S S2 (fun z => z = st') → (∀ i, i < pre.length → cI S2 st' i = nI (pre.getD i 0)) → fpL g mk (20 - frm pre) (frm pre) = fpL g mk (20 - frm pre - (i + 1)) (frm pre + (i + 1)) → k_X1_isCovered_v4_78 Q dp (fun b0 b1 b2 b3 b4 b5 S => P (b0, b1, b2, b3, b4, b5, S)) so' st' (nI mk) (nI pre.length) (nI cnt) (nI (frm pre + i)) S2 := by
      intro S2 s2 h2 e2
      unfold k_X1_isCovered_v4_78
      rintro _ rfl
      rw [nI_add]
      exact ih _ (by omega) ⟨S2, s2, h2, e2, rfl⟩
    rw [nI_bit (by omega) (by omega)]
    refine w_b0 (mk.testBit (frm pre + i)) (fun e => next s' hc' (by rw [hf, es, e, if_neg (by decide)])) (fun e => ?_)
    have t' := sub_A1 s' tA
    have tn' : cn S' st' = 4 := (sub_cn s' tA).trans tn
    refine ⟨cX_mk t' tn' (by decide) (show pre.length < 4 by omega) rfl, fun S3 e3 => ?_⟩
    rw [nI_clamp (show pre.length < 2 ^ 31 by omega)] at e3
    rw [nI_add]
    have s3 : cSub S' S3 (fun z => z = st') := e3 ▸ sub_SI rfl
    have ln : (pre ++ [frm pre + i]).length = pre.length + 1 := by rw [List.length_append]; rfl
    have s03 := sub_tr s' s3 (fun _ _ z => z)
    have e4 : fpN sp mk (cnt - (pre ++ [frm pre + i]).length) (pre ++ [frm pre + i]) = g (frm pre + i) := by rw [hg, ln, show cnt - (pre.length + 1) = d by omega]
    have cov := q_cov3 (S := S3) (dp := dp) (Q := fun r_4 S_4 => ((r_4 = 0 → k_X1_isCovered_v4_78 Q dp (fun b0 b1 b2 b3 b4 b5 S => P (b0, b1, b2, b3, b4, b5, S)) so' st' (nI mk) (nI pre.length) (nI cnt) (nI (frm pre + i)) S_4) ∧ (¬ r_4 = 0 → Q (bI true) S_4))) (so' := so') (st' := st') (sp := sp) (mk := mk) (cnt := cnt) (pre := pre ++ [frm pre + i]) (by rw [ln]; omega) ⟨by rw [ln]; omega, hc.2⟩ hm (sub_A1 s03 sA) ((sub_cn s03 sA).trans sn) (fun j hj => by rw [sub_cI s03 sA hne]; exact hs j hj) (sub_A1 s3 t') ((sub_cn s3 t').trans tn') hne (fun p hpp => ?_) (fun j hj => ?_) (fun T sT h1 h2 => ?_)
    · rw [ln] at cov
      exact cov
    · rcases List.mem_append.mp hpp with w | w
      · exact hp p w
      · rw [List.mem_singleton.mp w]; exact z2
    · rw [ln] at hj
      rw [gqD_app (by omega)]
      by_cases c : j = pre.length
      · subst c; rw [if_pos rfl]; exact heI_SI_s e3
      · rw [if_neg c]; exact heI_SI_k e3 c (hc' j (by omega))
    · rw [e4] at h2 ⊢
      have s0T := sub_tr s03 sT (fun _ _ z => z)
      have hpre : ∀ j, j < pre.length → cI T st' j = nI (pre.getD j 0) := fun j hj => by
        rw [h1 j (by rw [ln]; omega), gqD_app (by omega), if_neg (by omega)]
      cases e5 : g (frm pre + i) with
      | none => exact ⟨fun _ => next s0T hpre (by rw [hf, es, if_pos e, e5]), fun w => absurd rfl w⟩
      | some l =>
        have e6 : fpL g mk (20 - frm pre) (frm pre) = some l := by rw [hf, es, if_pos e, e5]
        refine ⟨fun w => absurd w (show ¬ bI true = 0 from by decide), fun _ => ?_⟩
        have hh := h T s0T hpre
        rw [e6] at hh
        exact hh (fun l' hl' => h2 l' (by rw [e5]; exact hl'))
  refine ⟨tA, ?_⟩
  rw [tn]
  refine pk_lt pre.length 4 (fun _ => w_nz pre.length (fun c => ?_) (fun c => ?_)) (fun z2 => absurd z2 (by omega))
  · rw [pk_sub (by omega)]
    refine ⟨cX_mk tA tn (by decide) (show pre.length - 1 < 4 by omega) rfl, ?_⟩
    rw [nI_clamp (show pre.length - 1 < 2 ^ 31 by omega), ht _ (by omega), nI_add, show pre.getD (pre.length - 1) 0 + 1 = frm pre by unfold frm; rw [if_neg (by omega)]]
    unfold k_X1_isCovered_v4_39
    exact loop
  · have : frm pre = 0 := by unfold frm; rw [if_pos c]
    rw [this] at loop
    unfold k_X1_isCovered_v4_39
    exact loop
end PS
