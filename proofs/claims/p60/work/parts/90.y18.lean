/-! postings are read: numbers -/
def finN (s : List Bool × List Nat) : List Bool := s.1 ++ grp s.2
def encN (xs : List Nat) : List Bool := finN (putNs ([], []) xs)
theorem putNs_pre (b : List Bool) : ∀ (xs : List Nat) (c : List Bool) (w : List Nat), putNs (b ++ c, w) xs = (b ++ (putNs (c, w) xs).1, (putNs (c, w) xs).2)
  | [], c, w => rfl
  | x :: xs, c, w => by
    show putNs (putN (b ++ c, w) x) xs = (b ++ (putNs (putN (c, w) x) xs).1, (putNs (putN (c, w) x) xs).2)
    unfold putN
    by_cases h : w.length = 3
    · simp only [h, if_true]
      rw [List.append_assoc, putNs_pre b xs]
    · simp only [h, if_false]
      rw [putNs_pre b xs]
theorem finN_pre (b : List Bool) (xs : List Nat) : finN (putNs (b, []) xs) = b ++ encN xs := by
  have := putNs_pre b xs [] []
  rw [List.append_nil] at this
  rw [this]
  show (b ++ _) ++ grp _ = b ++ (_ ++ grp _)
  rw [List.append_assoc]
theorem encN_nil : encN [] = [] := rfl
theorem encN_4 : ∀ xs : List Nat, encN xs = grp (xs.take 4) ++ encN (xs.drop 4)
  | [] => rfl
  | [a] => by rw [show ([a] : List Nat).drop 4 = [] from rfl, encN_nil, List.append_nil]; rfl
  | [a, b] => by rw [show ([a, b] : List Nat).drop 4 = [] from rfl, encN_nil, List.append_nil]; rfl
  | [a, b, c] => by rw [show ([a, b, c] : List Nat).drop 4 = [] from rfl, encN_nil, List.append_nil]; rfl
  | a :: b :: c :: d :: xs => by
    show finN (putNs (grp [a, b, c, d], []) xs) = grp [a, b, c, d] ++ encN xs
    exact finN_pre _ _
theorem encN_c (xs : List Nat) : ∀ c : Nat, encN xs = encN (xs.take (4 * c)) ++ encN (xs.drop (4 * c))
  | 0 => by rw [Nat.mul_zero, List.take_zero, encN_nil, List.drop_zero]; rfl
  | c + 1 => by
    rw [encN_4 xs, encN_4 (xs.take (4 * (c + 1))), List.take_take, Nat.min_eq_left (by omega), List.append_assoc]
    congr 1
    rw [encN_c (xs.drop 4) c, List.drop_take, List.drop_drop, show 4 * (c + 1) - 4 = 4 * c by omega, show 4 + 4 * c = 4 * (c + 1) by omega]
/-- a number that is read -/
def rdV (l : List Bool) (r : Nat) : Nat → Nat
  | 0 => 0
  | w + 1 => 2 * rdV l r w + (if l.getD (r + w) false = true then 1 else 0)
theorem rdV_lt (l : List Bool) (r : Nat) : ∀ w : Nat, rdV l r w < 2 ^ w
  | 0 => by show 0 < 1; decide
  | w + 1 => by
    have := rdV_lt l r w
    rw [rdV, Nat.pow_succ]
    split <;> omega
theorem bitsN_get (x : Nat) : ∀ {w i : Nat}, i < w → (bitsN x w)[i]? = some (x.testBit (w - 1 - i))
  | 0, i, h => absurd h (Nat.not_lt_zero i)
  | w + 1, 0, _ => rfl
  | w + 1, i + 1, h => by
    rw [bitsN, List.getElem?_cons_succ, bitsN_get x (by omega), show w + 1 - 1 - (i + 1) = w - 1 - i by omega]
theorem rdV_bits {A C : List Bool} {x w : Nat} (hx : x < 2 ^ w) : ∀ {k : Nat}, k ≤ w → rdV (A ++ (bitsN x w ++ C)) A.length k = x / 2 ^ (w - k)
  | 0, _ => by rw [Nat.sub_zero, Nat.div_eq_of_lt hx]; rfl
  | k + 1, hk => by
    have ih := rdV_bits (A := A) (C := C) hx (k := k) (by omega)
    have hb : (A ++ (bitsN x w ++ C)).getD (A.length + k) false = x.testBit (w - 1 - k) := by
      rw [List.getD_eq_getElem?_getD, List.getElem?_append_right (by omega), Nat.add_sub_cancel_left, List.getElem?_append_left (by rw [bitsN_len]; omega), bitsN_get x (by omega)]; rfl
    rw [rdV, ih, hb, show w - k = (w - (k + 1)) + 1 by omega, show w - 1 - k = w - (k + 1) by omega]
    have h1 := tb_div x (w - (k + 1))
    have h2 : x / 2 ^ (w - (k + 1) + 1) = x / 2 ^ (w - (k + 1)) / 2 := by rw [Nat.pow_succ, Nat.div_div_eq_div_mul]
    rw [h2, ← h1]
    omega
theorem rdV_all {A C : List Bool} {x w : Nat} (hx : x < 2 ^ w) : rdV (A ++ (bitsN x w ++ C)) A.length w = x := by
  rw [rdV_bits hx (Nat.le_refl w), Nat.sub_self, Nat.pow_zero, Nat.div_one]
/-- only what is read next changes in an object of postings -/
def pRd (S T : cS) (p : Nat) : Prop := cSub S T (fun z => z = p) ∧ (∀ q, q < 167 → ci T q p = ci S q p) ∧ (∀ q, cr T q p = cr S q p) ∧ ∀ q, cw T q p = cw S q p
section PR
variable {S T U : cS} {dp p : Nat} {l : List Bool}
theorem pRd_rf : pRd S S p := ⟨sub_rf, fun _ _ => rfl, fun _ => rfl, fun _ => rfl⟩
theorem pRd_tr (h : pRd S T p) (g : pRd T U p) : pRd S U p := ⟨sub_tr h.1 g.1 (fun _ _ z => z), fun q hq => (g.2.1 q hq).trans (h.2.1 q hq), fun q => (g.2.2.1 q).trans (h.2.2.1 q), fun q => (g.2.2.2 q).trans (h.2.2.2 q)⟩
theorem pRd_Si {q : Nat} {x : Int32} (e : T = cSi S q p x) (hq : 167 ≤ q) : pRd S T p := ⟨e ▸ sub_Si rfl, fun y hy => hi_Si_q e (by omega) rfl, fun y => by rw [e]; rfl, fun y => by rw [e]; rfl⟩
theorem pB_Rd (h : pRd S T p) (g : pB S p l) : pB T p l := by
  obtain ⟨q1, q2, q3, b, b1, b2, b3, b4⟩ := g
  exact ⟨sub_A1 h.1 q1, (h.2.1 _ (by decide)).trans q2, q3, b, (h.2.2.1 _).trans b1, sub_A1 h.1 b2, (sub_cn h.1 b2).trans b3, by rw [sub_cI h.1 b2 (cA_ne b2 q1 (by decide))]; exact b4⟩
theorem q_nextBits {Q : Int32 → cS → Prop} {r w : Nat} (hb : pB S p l) (h167 : ci S 167 p = nI r) (hw : w ≤ 15) (hr : r + w ≤ l.length) (h : ∀ T, pRd S T p → ci T 167 p = nI (r + w) → (∀ q, q ≠ 167 → ci T q p = ci S q p) → Q (nI (rdV l r w)) T) : k_X5_nextBits Q dp p (nI w) S := by
  have hl := hb.2.2.1
  unfold k_X5_nextBits k_X5_nextBits_4L
  refine lfp_cnt w (fun k y => ∃ S', pRd S S' p ∧ ci S' 167 p = nI (r + k) ∧ (∀ q, q ≠ 167 → ci S' q p = ci S q p) ∧ y = (p, nI w, nI (rdV l r k), nI k, S')) ?_ ⟨S, pRd_rf, h167, fun _ _ => rfl, rfl⟩
  rintro P k _ hk ⟨S', v, i167, io, rfl⟩ ih
  show k_X5_nextBits_4 Q dp _ p (nI w) (nI (rdV l r k)) (nI k) S'
  unfold k_X5_nextBits_4
  refine pk_le w k (fun z => ?_) (fun hlt => ?_)
  · obtain rfl : k = w := by omega
    exact h S' v i167 io
  · obtain ⟨q1, q2, q3, b, b1, b2, b3, b4⟩ := pB_Rd v hb
    have inv := (cap_inv l.length).1
    have hcap := (cap_inv l.length).2.1
    have hat : (r + k) / 8 < capB l.length := by omega
    have hv := rdV_lt l r k
    have h2k : 2 ^ k ≤ 2 ^ 15 := Nat.pow_le_pow_right (by decide) (by omega)
    refine ⟨q1, ?_⟩
    rw [i167, nI_shr (by omega) (by decide), show (r + k) / 2 ^ 3 = (r + k) / 8 from rfl]
    rintro _ rfl
    refine ⟨q1, b, b1, b2, (w_nle (capB l.length) ((r + k) / 8) (fun _ => ⟨q1, b, b1, cX_mk b2 b3 (by omega) hat rfl, q1, ?_⟩) (fun z => absurd z (by omega)) (by rw [b3]) rfl).symm⟩
    rw [nI_clamp (by omega), b4 _ hat, pk_andN (by omega) 3 (by decide), show (2 : Nat) ^ 3 = 8 from rfl, sB_bit byV_lt (Nat.mod_lt _ (by decide)), byV_tb (Nat.mod_lt _ (by decide)), show 8 * ((r + k) / 8) + (r + k) % 8 = r + k by omega]
    unfold k_X5_nextBits_51
    rw [nI_shl (by decide) (by omega)]
    rintro _ rfl
    refine ⟨q1, q1, fun S4 e4 => ?_⟩
    rw [i167, nI_add] at e4
    rintro _ rfl
    rw [nI_add]
    refine ih _ hlt ⟨S4, pRd_tr v (pRd_Si e4 (by decide)), hi_Si_s e4, fun q hq => (hi_Si_q e4 hq rfl).trans (io q hq), ?_⟩
    have e : nI (rdV l r k * 2 ^ 1) ||| bI (l.getD (r + k) false) = nI (rdV l r (k + 1)) := by
      rw [rdV]
      cases l.getD (r + k) false with
      | false =>
        show nI _ ||| nI 0 = nI (2 * rdV l r k + 0)
        rw [nI_or, Nat.or_zero]; congr 1; omega
      | true =>
        show nI _ ||| nI 1 = nI (2 * rdV l r k + 1)
        rw [nI_or]
        congr 1
        have := Nat.two_pow_add_eq_or_of_lt (i := 1) (b := 1) (by decide) (rdV l r k)
        rw [Nat.mul_comm, ← this]
    rw [e]
/-- the state of reading: j numbers are read -/
def rdI (S : cS) (p : Nat) (xs : List Nat) (j : Nat) : Prop := ci S 168 p = nI j ∧ (j % 4 = 0 → ci S 167 p = nI (encN (xs.take j)).length) ∧ (j % 4 ≠ 0 → ci S 167 p = nI ((encN (xs.take (4 * (j / 4)))).length + (4 + wid ((xs.drop (4 * (j / 4))).take 4) * (j % 4))) ∧ ci S 169 p = nI (wid ((xs.drop (4 * (j / 4))).take 4)))
set_option maxHeartbeats 1000000 in
theorem q_nextNumber {Q : Int32 → cS → Prop} {xs : List Nat} {j x : Nat} (hb : pB S p (encN xs)) (hI : rdI S p xs j) (hx : xs[j]? = some x) (h128 : ∀ x, x ∈ xs → x < 128) (hlen : xs.length < 2 ^ 16) (h : ∀ T, pRd S T p → rdI T p xs (j + 1) → Q (nI x) T) : k_X5_nextNumber Q dp p S := by
  have hj := get_lt hx
  obtain ⟨i1, i2, i3⟩ := hI
  obtain ⟨c, r, hr, rfl⟩ : ∃ c r, r < 4 ∧ j = 4 * c + r := ⟨j / 4, j % 4, Nat.mod_lt _ (by decide), by omega⟩
  have hdiv : (4 * c + r) / 4 = c := by omega
  have hmod : (4 * c + r) % 4 = r := by omega
  rw [hdiv, hmod] at i3
  rw [hmod] at i2
  have hG : encN xs = encN (xs.take (4 * c)) ++ (grp ((xs.drop (4 * c)).take 4) ++ encN (((xs.drop (4 * c)).drop 4))) := by
    rw [← encN_4]; exact encN_c xs c
  generalize hgr : (xs.drop (4 * c)).take 4 = gr at hG i3
  generalize hA : encN (xs.take (4 * c)) = A at hG i3
  generalize encN ((xs.drop (4 * c)).drop 4) = C at hG
  have hgx : gr[r]? = some x := by rw [← hgr, List.getElem?_take_of_lt hr, List.getElem?_drop]; exact hx
  have hgl := get_lt hgx
  have hgl4 : gr.length ≤ 4 := by rw [← hgr, List.length_take]; exact Nat.min_le_left _ _
  have hgne : gr ≠ [] := fun z => by rw [z] at hgl; exact absurd hgl (Nat.not_lt_zero r)
  have hg128 : ∀ y, y ∈ gr → y < 128 := fun y hy => h128 y (List.mem_of_mem_drop (List.mem_of_mem_take (hgr ▸ hy)))
  have hw7 : wid gr ≤ 7 := widN_le.mpr (orL_lt.mpr hg128)
  have hxw : x < 2 ^ wid gr := orL_lt.mp (widN_le.mp (Nat.le_refl (wid gr))) x (List.mem_of_getElem? hgx)
  have hgrp : grp gr = bitsN (wid gr) 4 ++ flB (wid gr) gr := if_neg hgne
  have hglen := grp_len hgne
  have hwr : wid gr * r + wid gr ≤ wid gr * gr.length := by
    rw [← Nat.mul_succ]; exact Nat.mul_le_mul_left _ hgl
  have hbl := hb.2.2.1
  rw [hG] at hb
  have hL : (A ++ (grp gr ++ C)).length = A.length + (4 + wid gr * gr.length) + C.length := by
    rw [List.length_append, List.length_append, hglen]; omega
  have hL19 : (A ++ (grp gr ++ C)).length < 2 ^ 19 := hG ▸ hbl
  -- the width is read; then the number
  have rest : ∀ S1 : cS, pRd S S1 p → ci S1 168 p = nI (4 * c + r) → ci S1 167 p = nI (A.length + (4 + wid gr * r)) → ci S1 169 p = nI (wid gr) → k_X5_nextNumber_18 Q dp p S1 := by
    intro S1 v1 a1 a2 a3
    have b1 := pB_Rd v1 hb
    unfold k_X5_nextNumber_18
    refine ⟨b1.1, b1.1, fun S2 e2 => ?_⟩
    rw [a1, nI_add] at e2
    have v2 := pRd_Si e2 (by decide)
    have b2 := pB_Rd v2 b1
    rw [show ci S2 169 p = nI (wid gr) from hi_Si_q e2 (by decide) a3]
    refine ⟨b2.1, b2.1, q_nextBits b2 (hi_Si_q e2 (by decide) a2) (by omega) (by rw [hL]; omega) (fun T vT t1 t2 => ?_)⟩
    have ev : rdV (A ++ (grp gr ++ C)) (A.length + (4 + wid gr * r)) (wid gr) = x := by
      have h1 : grp gr = (bitsN (wid gr) 4 ++ flB (wid gr) (gr.take r)) ++ (bitsN x (wid gr) ++ flB (wid gr) (gr.drop (r + 1))) := by
        rw [hgrp, List.append_assoc, ← List.append_assoc (flB (wid gr) (gr.take r)), ← flB_take hgx, ← flB_app, List.take_append_drop]
      have h2 : A ++ (grp gr ++ C) = (A ++ (bitsN (wid gr) 4 ++ flB (wid gr) (gr.take r))) ++ (bitsN x (wid gr) ++ (flB (wid gr) (gr.drop (r + 1)) ++ C)) := by
        rw [h1]; simp only [List.append_assoc]
      have h3 : (A ++ (bitsN (wid gr) 4 ++ flB (wid gr) (gr.take r))).length = A.length + (4 + wid gr * r) := by
        rw [List.length_append, List.length_append, bitsN_len, flB_len, List.length_take, Nat.min_eq_left (by omega)]
      rw [h2, ← h3]
      exact rdV_all hxw
    rw [ev]
    have t168 : ci T 168 p = nI (4 * c + r + 1) := (t2 _ (by decide)).trans (hi_Si_s e2)
    have t169 : ci T 169 p = nI (wid gr) := (t2 _ (by decide)).trans (hi_Si_q e2 (by decide) a3)
    refine h T (pRd_tr v1 (pRd_tr v2 vT)) ⟨t168, fun z => ?_, fun z => ?_⟩
    · obtain rfl : r = 3 := by omega
      have hg4 : gr.length = 4 := by omega
      have e4 : xs.take (4 * c + 3 + 1) = xs.take (4 * c) ++ gr := by
        rw [← hgr, ← List.take_add]
      have e5 : encN (xs.take (4 * c + 3 + 1)) = A ++ grp gr := by
        rw [encN_c _ c, e4]
        have hc4 : (xs.take (4 * c)).length = 4 * c := by rw [List.length_take]; omega
        rw [List.take_append_of_le_length (by omega), List.take_of_length_le (by omega), List.drop_append_of_le_length (by omega), List.drop_of_length_le (by omega), hA, List.nil_append, encN_4 gr, List.take_of_length_le (by omega), List.drop_of_length_le (by omega), encN_nil, List.append_nil]
      rw [t1, e5, List.length_append, hglen, hg4]
      congr 1; omega
    · have hr3 : r + 1 < 4 := by omega
      rw [show (4 * c + r + 1) / 4 = c by omega, show (4 * c + r + 1) % 4 = r + 1 by omega, hgr, hA]
      refine ⟨?_, t169⟩
      rw [t1, Nat.mul_succ]
      congr 1; omega
  unfold k_X5_nextNumber
  rw [i1, pk_rem (by omega) (by decide) (by decide), hmod]
  refine ⟨hb.1, w_nz r (fun hpos => ?_) (fun z => ?_)⟩
  · obtain ⟨a2, a3⟩ := i3 (by omega)
    exact rest S pRd_rf i1 a2 a3
  · subst z
    have a2 := i2 rfl
    rw [Nat.add_zero, hA] at a2
    refine ⟨hb.1, q_nextBits hb a2 (by decide) (by rw [hL]; omega) (fun S3 v3 t1 t2 => ⟨sub_A1 v3.1 hb.1, fun S4 e4 => ?_⟩)⟩
    have ev : rdV (A ++ (grp gr ++ C)) A.length 4 = wid gr := by
      rw [hgrp, List.append_assoc]
      exact rdV_all (by have : (2 : Nat) ^ 4 = 16 := rfl; omega)
    rw [ev] at e4
    exact rest S4 (pRd_tr v3 (pRd_Si e4 (by decide))) ((hi_Si_q e4 (by decide) rfl).trans ((t2 _ (by decide)).trans i1)) (hi_Si_q e4 (by decide) t1) (hi_Si_s e4)
end PR
