/-! postings: groups of numbers -/
def orL : List Nat → Nat
  | [] => 0
  | x :: l => x ||| orL l
theorem orL_app (l m : List Nat) : orL (l ++ m) = orL l ||| orL m := by
  induction l with
  | nil => rw [List.nil_append, orL, Nat.zero_or]
  | cons x l ih => rw [List.cons_append, orL, orL, ih, Nat.or_assoc]
theorem orL_take {l : List Nat} {k x : Nat} (h : l[k]? = some x) : orL (l.take (k + 1)) = orL (l.take k) ||| x := by
  rw [List.take_succ, h, orL_app]
  show _ ||| (x ||| 0) = _
  rw [Nat.or_zero]
theorem orL_lt {w : Nat} : ∀ {l : List Nat}, orL l < 2 ^ w ↔ ∀ x, x ∈ l → x < 2 ^ w
  | [] => ⟨fun _ x hx => absurd hx (List.not_mem_nil), fun _ => Nat.two_pow_pos w⟩
  | y :: l => by
    rw [orL]
    constructor
    · intro h x hx
      rcases List.mem_cons.mp hx with e | e
      · rw [e]; exact Nat.lt_of_le_of_lt Nat.left_le_or h
      · exact orL_lt.mp (Nat.lt_of_le_of_lt Nat.right_le_or h) x e
    · intro h
      exact Nat.or_lt_two_pow (h y (List.mem_cons_self ..)) (orL_lt.mpr (fun x hx => h x (List.mem_cons_of_mem _ hx)))
def widN (n : Nat) : Nat := if n = 0 then 0 else n.log2 + 1
theorem widN_le {n w : Nat} : widN n ≤ w ↔ n < 2 ^ w := by
  unfold widN
  split
  · rename_i e
    rw [e]
    exact ⟨fun _ => Nat.two_pow_pos w, fun _ => Nat.zero_le _⟩
  · rename_i e
    rw [← Nat.log2_lt e]
    exact ⟨fun h => h, fun h => h⟩
theorem widN_div {n w : Nat} : n / 2 ^ w = 0 ↔ widN n ≤ w := by
  rw [widN_le, Nat.div_eq_zero_iff]
  constructor
  · rintro (h | h)
    · exact absurd h (Nat.ne_of_gt (Nat.two_pow_pos w))
    · exact h
  · exact Or.inr
def wid (l : List Nat) : Nat := widN (orL l)
def flB (w : Nat) : List Nat → List Bool
  | [] => []
  | x :: l => bitsN x w ++ flB w l
theorem flB_app (w : Nat) (l m : List Nat) : flB w (l ++ m) = flB w l ++ flB w m := by
  induction l with
  | nil => rfl
  | cons x l ih => rw [List.cons_append, flB, flB, ih, List.append_assoc]
theorem flB_len (w : Nat) : ∀ l : List Nat, (flB w l).length = w * l.length
  | [] => rfl
  | x :: l => by rw [flB, List.length_append, bitsN_len, flB_len, List.length_cons, Nat.mul_succ, Nat.add_comm]
theorem flB_take {w k x : Nat} {l : List Nat} (h : l[k]? = some x) : flB w (l.take (k + 1)) = flB w (l.take k) ++ bitsN x w := by
  rw [List.take_succ, h, flB_app]
  show _ ++ (bitsN x w ++ []) = _
  rw [List.append_nil]
/-- a group -/
def grp (l : List Nat) : List Bool := if l = [] then [] else bitsN (wid l) 4 ++ flB (wid l) l
theorem grp_len {l : List Nat} (h : l ≠ []) : (grp l).length = 4 + wid l * l.length := by
  rw [grp, if_neg h, List.length_append, bitsN_len, flB_len]
/-- postings under way: bits, and the numbers that wait -/
def pC (S : cS) (p : Nat) (w : Int64) (l : List Bool) (wt : List Nat) (dc lp : Nat) : Prop := pB S p l ∧ cw S 160 p = w ∧ ci S 163 p = nI dc ∧ ci S 164 p = nM lp ∧ ci S 166 p = nI wt.length ∧ wt.length ≤ 4 ∧ (∀ x, x ∈ wt → x < 128) ∧ ∃ d, cr S 165 p = some d ∧ cA S d 14 ∧ cn S d = 4 ∧ ∀ k x, wt[k]? = some x → cI S d k = nI x
def pCF (S : cS) (p z : Nat) : Prop := z = p ∨ cr S 161 p = some z ∨ cr S 165 p = some z
def pCv (S T : cS) (p : Nat) : Prop := cSub S T (pCF S p) ∧ ∀ z, pCF T p z → pCF S p z ∨ z ∉ cL S
section PC
variable {S T U : cS} {dp p : Nat} {l : List Bool} {w : Int64} {wt : List Nat} {dc lp : Nat}
theorem pCv_rf : pCv S S p := ⟨sub_rf, fun _ h => Or.inl h⟩
theorem pCv_tr (h : pCv S T p) (g : pCv T U p) : pCv S U p := by
  refine ⟨sub_tr h.1 g.1 (fun b hb z => (h.2 b z).elim id (fun q => absurd hb q)), fun z hz => ?_⟩
  rcases g.2 z hz with q | q
  · exact h.2 z q
  · exact Or.inr (fun w => q (h.1 z w).1.1)
theorem pCv_B (h : pBv S T p) : pCv S T p := by
  obtain ⟨h1, h2, h3, h4, h5⟩ := h
  refine ⟨sub_wk h1 (fun a _ ha => ha.elim Or.inl (fun y => Or.inr (Or.inl y))), fun z hz => ?_⟩
  rcases hz with y | y | y
  · exact (h2 z (Or.inl y)).imp_left (fun q => q.elim Or.inl (fun u => Or.inr (Or.inl u)))
  · exact (h2 z (Or.inr y)).imp_left (fun q => q.elim Or.inl (fun u => Or.inr (Or.inl u)))
  · rw [h4 165 (by decide)] at y
    exact Or.inl (Or.inr (Or.inr y))
theorem pC_B {l' : List Bool} (h : pBv S T p) (hb : pB T p l') (g : pC S p w l wt dc lp) : pC T p w l' wt dc lp := by
  obtain ⟨h1, h2, h3, h4, h5⟩ := h
  obtain ⟨⟨q1, q2, q3, b, b1, b2, b3⟩, g2, g3, g4, g5, g6, g7, d, d1, d2, d3, d4⟩ := g
  have nd : ¬ pBF S p d := by
    rintro (z | z)
    · exact cA_ne d2 q1 (by decide) z
    · exact cA_ne d2 b2 (by decide) (Option.some.inj (z.symm.trans b1))
  exact ⟨hb, (h5 _).trans g2, (h3 _ (by decide)).trans g3, (h3 _ (by decide)).trans g4, (h3 _ (by decide)).trans g5, g6, g7, d, (h4 _ (by decide)).trans d1, sub_A1 h1 d2, (sub_cn h1 d2).trans d3, by rw [sub_cI h1 d2 nd]; exact d4⟩
theorem pC_sub {F : Nat → Prop} (h : cSub S T F) (g : pC S p w l wt dc lp) (hF : ∀ z, pCF S p z → ¬ F z) : pC T p w l wt dc lp := by
  obtain ⟨⟨q1, q2, q3, b, b1, b2, b3, b4⟩, g2, g3, g4, g5, g6, g7, d, d1, d2, d3, d4⟩ := g
  have fp := hF p (Or.inl rfl)
  have fb := hF b (Or.inr (Or.inl b1))
  have fd := hF d (Or.inr (Or.inr d1))
  have i : ∀ q, ci T q p = ci S q p := fun q => sub_ci h q1 fp
  have r : ∀ q, cr T q p = cr S q p := fun q => sub_cr h q1 fp
  exact ⟨⟨sub_A1 h q1, (i _).trans q2, q3, b, (r _).trans b1, sub_A1 h b2, (sub_cn h b2).trans b3, by rw [sub_cI h b2 fb]; exact b4⟩, (sub_cw h q1 fp).trans g2, (i _).trans g3, (i _).trans g4, (i _).trans g5, g6, g7, d, (r _).trans d1, sub_A1 h d2, (sub_cn h d2).trans d3, by rw [sub_cI h d2 fd]; exact d4⟩
theorem pCF_in {z : Nat} (g : pC S p w l wt dc lp) (hz : pCF S p z) : z ∈ cL S := by
  obtain ⟨⟨q1, q2, q3, b, b1, b2, b3⟩, g2, g3, g4, g5, g6, g7, d, d1, d2, d3, d4⟩ := g
  rcases hz with y | y | y
  · exact y ▸ q1.1
  · exact Option.some.inj (b1.symm.trans y) ▸ b2.1
  · exact Option.some.inj (d1.symm.trans y) ▸ d2.1
theorem pC_w7 (g : pC S p w l wt dc lp) : wid wt ≤ 7 := widN_le.mpr (orL_lt.mpr g.2.2.2.2.2.2.1)
set_option maxHeartbeats 1000000 in
theorem q_close {Q : cS → Prop} {mc ms : Nat} (g : pC S p w l wt dc lp) (hl : l.length + (grp wt).length < 2 ^ 19) (hc : gB (l.length + (grp wt).length) ≤ gB l.length + mc) (hs : sG (l.length + (grp wt).length) ≤ sG l.length + ms) (h : ∀ T, pCv S T p → pC T p w (l ++ grp wt) [] dc lp → Q T) : k_X5_close Q dp mc ms p S := by
  obtain ⟨hb, g2, g3, g4, g5, g6, g7, d, d1, d2, d3, d4⟩ := id g
  have hw7 := pC_w7 g
  unfold k_X5_close
  rw [g5]
  refine ⟨hb.1, w_nz wt.length (fun hpos => ?_) (fun z => ?_)⟩
  · have hne : wt ≠ [] := fun z => by rw [z] at hpos; exact absurd hpos (Nat.lt_irrefl 0)
    have glen := grp_len hne
    have hmul : wid wt * wt.length ≤ 7 * 4 := Nat.mul_le_mul hw7 g6
    -- third: all is put
    have p3 : k_X5_close_64 Q dp mc ms p (nI (wid wt)) 0 0 S := by
      unfold k_X5_close_64
      have c4 := cap_mono (l.length + 4) (wid wt * wt.length)
      rw [show l.length + 4 + wid wt * wt.length = l.length + (grp wt).length by omega] at c4
      have c40 := cap_mono l.length 4
      refine ⟨hb.1, gB (l.length + 4) - gB l.length, sG (l.length + 4) - sG l.length, by omega, by omega, q_putBits hb (by omega) (by decide) (by omega) (by omega) (by omega) (fun T1 v1 b1 => ?_)⟩
      unfold k_X5_close_72L
      refine lfp_cnt wt.length (fun k y => ∃ S', pBv S S' p ∧ pB S' p (l ++ (bitsN (wid wt) 4 ++ flB (wid wt) (wt.take k))) ∧ y = (p, nI (wid wt), nI k, gB (l.length + (4 + wid wt * k)) - gB l.length, sG (l.length + (4 + wid wt * k)) - sG l.length, S')) ?_ ⟨T1, v1, by rw [List.take_zero, show flB (wid wt) [] = [] from rfl, List.append_nil]; exact b1, by rw [Nat.zero_add, Nat.zero_add]; rfl⟩
      rintro P k _ hk ⟨S', v, hb', rfl⟩ ih
      show k_X5_close_72 Q dp mc ms _ p (nI (wid wt)) (nI k) (gB (l.length + (4 + wid wt * k)) - gB l.length) (sG (l.length + (4 + wid wt * k)) - sG l.length) S'
      have g' := pC_B v hb' g
      obtain ⟨-, g2', g3', g4', g5', -, -, d', d1', d2', d3', d4'⟩ := id g'
      have el : (l ++ (bitsN (wid wt) 4 ++ flB (wid wt) (wt.take k))).length = l.length + (4 + wid wt * k) := by
        rw [List.length_append, List.length_append, bitsN_len, flB_len, List.length_take, Nat.min_eq_left hk]
      have kk : wid wt * k ≤ wid wt * wt.length := Nat.mul_le_mul_left _ hk
      have ck := cap_mono (l.length + (4 + wid wt * k)) (wid wt * wt.length - wid wt * k)
      rw [show l.length + (4 + wid wt * k) + (wid wt * wt.length - wid wt * k) = l.length + (grp wt).length by omega] at ck
      have ck0 := cap_mono l.length (4 + wid wt * k)
      unfold k_X5_close_72
      rw [g5']
      refine ⟨hb'.1, (w_nle wt.length k (fun hlt => ?_) (fun z => ?_)).symm⟩
      · obtain ⟨x, hx⟩ := get_ex hlt
        refine ⟨hb'.1, d', d1', d2', (w_nle 4 k (fun _ => ?_) (fun z => absurd z (by omega)) (by rw [d3']) rfl).symm⟩
        rw [nI_clamp (by omega)]
        have ks : wid wt * (k + 1) = wid wt * k + wid wt := Nat.mul_succ _ _
        have ks2 : wid wt * (k + 1) ≤ wid wt * wt.length := Nat.mul_le_mul_left _ hlt
        have cs := cap_mono (l.length + (4 + wid wt * (k + 1))) (wid wt * wt.length - wid wt * (k + 1))
        rw [show l.length + (4 + wid wt * (k + 1)) + (wid wt * wt.length - wid wt * (k + 1)) = l.length + (grp wt).length by omega] at cs
        have cs1 := cap_mono (l.length + (4 + wid wt * k)) (wid wt)
        rw [show l.length + (4 + wid wt * k) + wid wt = l.length + (4 + wid wt * (k + 1)) by omega] at cs1
        have cs0 := cap_mono l.length (4 + wid wt * (k + 1))
        refine ⟨hb'.1, d', d1', cX_mk d2' d3' (by decide) (show k < 4 by omega) rfl, hb'.1, gB (l.length + (4 + wid wt * (k + 1))) - gB (l.length + (4 + wid wt * k)), sG (l.length + (4 + wid wt * (k + 1))) - sG (l.length + (4 + wid wt * k)), by omega, by omega, ?_⟩
        rw [d4' k x hx]
        refine q_putBits hb' (by have := g7 x (List.mem_of_getElem? hx); omega) (by omega) (by rw [el]; omega) (by rw [el, show l.length + (4 + wid wt * k) + wid wt = l.length + (4 + wid wt * (k + 1)) by omega]; omega) (by rw [el, show l.length + (4 + wid wt * k) + wid wt = l.length + (4 + wid wt * (k + 1)) by omega]; omega) (fun T v2 b2 => ?_)
        rintro _ rfl
        rw [nI_add]
        refine ih _ hlt ⟨T, pBv_tr v v2, ?_, by rw [show gB (l.length + (4 + wid wt * k)) - gB l.length + (gB (l.length + (4 + wid wt * (k + 1))) - gB (l.length + (4 + wid wt * k))) = gB (l.length + (4 + wid wt * (k + 1))) - gB l.length by omega, show sG (l.length + (4 + wid wt * k)) - sG l.length + (sG (l.length + (4 + wid wt * (k + 1))) - sG (l.length + (4 + wid wt * k))) = sG (l.length + (4 + wid wt * (k + 1))) - sG l.length by omega]⟩
        rw [flB_take hx, ← List.append_assoc (bitsN (wid wt) 4), ← List.append_assoc l]; exact b2
      · obtain rfl : k = wt.length := by omega
        rw [List.take_length] at hb'
        have eg : bitsN (wid wt) 4 ++ flB (wid wt) wt = grp wt := by rw [grp, if_neg hne]
        rw [eg] at hb'
        unfold k_X5_close_106
        refine ⟨hb'.1, fun S4 e4 => ⟨⟨by omega, by omega⟩, ?_⟩⟩
        have s4 : cSub S' S4 (pCF S' p) := e4 ▸ sub_Si (Or.inl rfl)
        obtain ⟨q1, q2, q3, b, bb1, bb2, bb3, bb4⟩ := hb'
        refine h S4 (pCv_tr (pCv_B v) ⟨s4, fun z hz => Or.inl ?_⟩) ⟨⟨sub_A1 s4 q1, hi_Si_q e4 (by decide) q2, q3, b, hr_Si e4 bb1, sub_A1 s4 bb2, (sub_cn s4 bb2).trans bb3, by rw [hI_Si e4 rfl]; exact bb4⟩, (show cw S4 160 p = cw S' 160 p by rw [e4]; rfl).trans g2', hi_Si_q e4 (by decide) g3', hi_Si_q e4 (by decide) g4', hi_Si_s e4, Nat.zero_le _, fun x hx => absurd hx (List.not_mem_nil), d', hr_Si e4 d1', sub_A1 s4 d2', (sub_cn s4 d2').trans d3', fun k x hx => absurd (get_lt hx) (Nat.not_lt_zero k)⟩
        unfold pCF at hz ⊢
        rw [show cr S4 161 p = cr S' 161 p by rw [e4]; rfl, show cr S4 165 p = cr S' 165 p by rw [e4]; rfl] at hz
        exact hz
    -- second: the width
    have p2 : k_X5_close_44 Q dp mc ms p (nI (orL wt)) 0 0 S := by
      have ho : orL wt < 2 ^ 7 := orL_lt.mpr g7
      unfold k_X5_close_44 k_X5_close_46L
      refine lfp_cnt (wid wt) (fun k y => y = (p, nI (orL wt), nI k, 0, 0, S)) ?_ rfl
      rintro P k _ hk rfl ih
      show k_X5_close_46 Q dp mc ms _ p (nI (orL wt)) (nI k) 0 0 S
      unfold k_X5_close_46
      refine pk_le 15 k (fun z => absurd z (by omega)) (fun _ => ?_)
      rw [nI_shr (by omega) (by omega)]
      refine w_z (orL wt / 2 ^ k) (fun z => ?_) (fun z => ?_) rfl (by have := Nat.div_le_self (orL wt) (2 ^ k); omega)
      · have : wid wt ≤ k := widN_div.mp z
        obtain rfl : k = wid wt := by omega
        exact p3
      · have hlt : k < wid wt := by
          rcases Nat.lt_or_ge k (wid wt) with y | y
          · exact y
          · have := widN_div.mpr y; omega
        rintro _ rfl
        rw [nI_add]
        exact ih _ hlt rfl
    -- first: all of them
    unfold k_X5_close_12L
    refine lfp_cnt wt.length (fun k y => y = (p, nI (orL (wt.take k)), nI k, 0, 0, S)) ?_ rfl
    rintro P k _ hk rfl ih
    show k_X5_close_12 Q dp mc ms _ p (nI (orL (wt.take k))) (nI k) 0 0 S
    unfold k_X5_close_12
    rw [g5]
    refine ⟨hb.1, (w_nle wt.length k (fun hlt => ?_) (fun z => ?_)).symm⟩
    · obtain ⟨x, hx⟩ := get_ex hlt
      refine ⟨hb.1, d, d1, d2, (w_nle 4 k (fun _ => ?_) (fun z => absurd z (by omega)) (by rw [d3]) rfl).symm⟩
      refine ⟨hb.1, d, d1, cX_mk d2 d3 (by decide) (show k < 4 by omega) rfl, ?_⟩
      rw [nI_clamp (by omega), d4 k x hx, nI_or, nI_add, ← orL_take hx]
      rintro _ rfl _ rfl
      exact ih _ hlt rfl
    · obtain rfl : k = wt.length := by omega
      rw [List.take_length]; exact p2
  · have e : wt = [] := List.eq_nil_of_length_eq_zero z
    subst e
    rw [show grp [] = [] from rfl, List.append_nil] at h
    exact ⟨⟨by omega, by omega⟩, h S pCv_rf g⟩
end PC
